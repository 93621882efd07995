/** Counts answers that are due and prints those that are not as due. */
final class Checks {
    private final String name;
    private int passed;
    private int failed;

    Checks(String name) {
        this.name = name;
    }

    void due(String call, long want, long got) {
        if (want == got) {
            passed++;
            return;
        }
        failed++;
        System.out.println(name + ": " + call + " answered " + got + ", due is " + want);
    }

    void holds(String what, boolean isSo) {
        due(what, 1, isSo ? 1 : 0);
    }

    /** Prints the count and ends with exit code 1 if an answer was not as due. */
    void close() {
        System.out.println(name + ": " + passed + " passed, " + failed + " failed");
        if (failed != 0 || passed == 0) {
            System.exit(1);
        }
    }

    /** Puts a text's codes into a new row of a sheet. */
    static void write(DebtFerry x, int sheet, int lane, String text) {
        x.sheet(sheet, lane, text.length());
        for (int i = 0; i < text.length(); i++) {
            x.put(sheet, i, text.charAt(i));
        }
    }

    static int take(DebtFerry x, String text) {
        write(x, 0, 0, text);
        return x.river(0, 0, 0, text.length());
    }

    static DebtFerry on(String text) {
        DebtFerry x = new DebtFerry();
        take(x, text);
        return x;
    }

    static void row(DebtFerry x, int sheet, int lane, int... cells) {
        x.sheet(sheet, lane, cells.length);
        for (int i = 0; i < cells.length; i++) {
            x.put(sheet, i, cells[i]);
        }
    }
}
