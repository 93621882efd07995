import java.util.Arrays;

/** Counts answers that are due and prints those that are not as due. */
final class Checks {
    private final String name;
    private int passed;
    private int failed;

    Checks(String name) {
        this.name = name;
    }

    void due(String call, long want, long got) {
        if (want == got) {
            passed++;
            return;
        }
        failed++;
        System.out.println(name + ": " + call + " answered " + got + ", due is " + want);
    }

    /** One call by name, under the sentence of the document that it is about. */
    void answers(String sentence, long want, DebtFerry x, String name, int... a) {
        due(sentence + ": " + name + Arrays.toString(a), want, Calls.of(x, name, a));
    }

    void holds(String what, boolean isSo) {
        due(what, 1, isSo ? 1 : 0);
    }

    /** Prints the count and ends with exit code 1 if an answer was not as due. */
    void close() {
        System.out.println(name + ": " + passed + " passed, " + failed + " failed");
        if (failed != 0 || passed == 0) {
            System.exit(1);
        }
    }

    /** Puts a text's codes into a new row of a sheet. */
    static void write(DebtFerry x, int sheet, int lane, String text) {
        x.sheet(sheet, lane, text.length());
        for (int i = 0; i < text.length(); i++) {
            x.put(sheet, i, text.charAt(i));
        }
    }

    static int take(DebtFerry x, String text) {
        write(x, 0, 0, text);
        return x.river(0, 0, 0, text.length());
    }

    static DebtFerry on(String text) {
        DebtFerry x = new DebtFerry();
        // A test whose own TEXT is wrong would tell of nothing but refusals.
        if (take(x, text) < 0) {
            throw new IllegalStateException("no TEXT: " + text);
        }
        return x;
    }

    static void row(DebtFerry x, int sheet, int lane, int... cells) {
        x.sheet(sheet, lane, cells.length);
        for (int i = 0; i < cells.length; i++) {
            x.put(sheet, i, cells[i]);
        }
    }
}
