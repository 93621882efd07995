/** Promises 15 to 20: reading, back, notes, kinds, often, odds. */
public final class PulledTest {
    private static final Checks CHECKS = new Checks("PulledTest");
    private static final String FIVE = "o235,r002100,f030001,b150020,r000003,f000100";

    public static void main(String[] args) {
        readingsAndBack();
        readingRefusals();
        withoutReadings();
        whatFits();
        readingsAreOfWhatIsNow();
        refusals();
        odds();
        oddsRefusals();
        CHECKS.close();
    }

    private static void readingsAndBack() {
        DebtFerry x = Checks.on(FIVE);
        for (int k = 0; k < 8; k++) {
            CHECKS.due("15 reading " + k, k, x.reading(k, 0));
            CHECKS.due("15 READINGS", k + 1, x.many(3));
        }
        CHECKS.due("15 OUTSIDE ahead of FULL", DebtFerry.OUTSIDE, x.reading(32, 0));
        CHECKS.due("15 OUTSIDE ahead of FULL", DebtFerry.OUTSIDE, x.reading(1, 2));
        CHECKS.due("15 FULL", DebtFerry.FULL, x.reading(3, 1));
        CHECKS.due("15 READINGS then", 8, x.many(3));
        CHECKS.due("16 back(9)", DebtFerry.OUTSIDE, x.back(9));
        CHECKS.due("16 back(-1)", DebtFerry.OUTSIDE, x.back(-1));
        CHECKS.due("16 back(0)", 8, x.back(0));
        CHECKS.due("16 back(3)", 5, x.back(3));
        CHECKS.due("15 reading again", 5, x.reading(3, 3));
        CHECKS.due("16 back(7)", DebtFerry.OUTSIDE, x.back(7));
        CHECKS.due("16 back(6)", 0, x.back(6));
        CHECKS.due("16 back(1)", DebtFerry.OUTSIDE, x.back(1));
        CHECKS.due("16 back(0), no RIVER", 0, new DebtFerry().back(0));
        CHECKS.due("16 back(1), no RIVER", DebtFerry.OUTSIDE, new DebtFerry().back(1));
    }

    private static void readingRefusals() {
        CHECKS.due("15 reading(-1, 0), no RIVER", DebtFerry.STATE, new DebtFerry().reading(-1, 0));
        DebtFerry x = Checks.on(FIVE);
        int[][] outside = {{-1, 0}, {32, 0}, {3, 4}, {3, 7}, {3, -1}, {0, 1}, {31, 32}, {31, Integer.MIN_VALUE}};
        for (int[] r : outside) {
            CHECKS.due("15 reading(" + r[0] + ", " + r[1] + ")", DebtFerry.OUTSIDE, x.reading(r[0], r[1]));
        }
        CHECKS.due("15 READINGS", 0, x.many(3));
        CHECKS.due("15 reading(31, 31)", 0, x.reading(31, 31));
        CHECKS.due("15 reading(0, 0)", 1, x.reading(0, 0));
    }

    private static void withoutReadings() {
        DebtFerry x = Checks.on(FIVE);
        CHECKS.due("17 notes, no READINGS", 1023, x.notes(0, 1));
        CHECKS.due("18 kinds, no READINGS", 7, x.kinds(0));
        CHECKS.due("19 often, no READINGS", 14, x.often());
        x.reading(0, 0);
        CHECKS.due("17 notes, an empty LOAD", 1023, x.notes(0, 1));
    }

    private static void fits(DebtFerry x, String what, int[][] notes, int[] kinds, int often) {
        for (int[] n : notes) {
            CHECKS.due("17 notes(" + n[0] + ", " + n[1] + "), " + what, n[2], x.notes(n[0], n[1]));
        }
        for (int p = 0; p < kinds.length; p++) {
            CHECKS.due("18 kinds(" + p + "), " + what, kinds[p], x.kinds(p));
        }
        CHECKS.due("19 often(), " + what, often, x.often());
    }

    private static void whatFits() {
        DebtFerry x = Checks.on(FIVE);
        x.reading(3, 2);
        int[][] first = {{0, 1, 7}, {1, 0, 1016}, {1, 4, 1023}, {0, 2, 7}, {2, 3, 1023}};
        fits(x, "one pulled", first, new int[] {7, 3, 7, 7, 7}, 12);
        x.reading(9, 9);
        int[][] second = {{0, 1, 4}, {0, 2, 2}, {0, 3, 1}, {1, 0, 1016}};
        fits(x, "and two quarrelled", second, new int[] {1, 3, 7, 1, 7}, 12);
        x.reading(16, 0);
        int[][] third = {{4, 2, 3}, {4, 0, 1}, {0, 1, 4}};
        fits(x, "and it drifted", third, new int[] {1, 3, 7, 1, 6}, 12);
        x.reading(1, 0);
        int[][] fourth = {{4, 2, 0}, {0, 1, 0}, {1, 0, 0}};
        fits(x, "and what can't be", fourth, new int[] {0, 0, 0, 0, 0}, 0);
        x.back(1);
        fits(x, "without that", third, new int[] {1, 3, 7, 1, 6}, 12);
        CHECKS.due("17 NOTES stay", 2, x.owes(0, 1));
        CHECKS.due("18 the kind stays", 1, x.ofPerson(1, 0));
        CHECKS.due("19 TIMES stay", 3, x.many(2));
    }

    /** The other NOTES, kinds and TIMES are those of now, not of when the READING was made. */
    private static void readingsAreOfWhatIsNow() {
        DebtFerry x = Checks.on("o212,r003,r020");
        x.reading(3, 1);
        CHECKS.due("17 notes(0, 1)", 1016, x.notes(0, 1));
        x.lend(1, 0, 8);
        CHECKS.due("17 notes(0, 1), lent since", 512, x.notes(0, 1));
        CHECKS.due("17 READINGS stay", 1, x.many(3));
        x.lend(1, 0, 0);
        x.reading(1, 1);
        x.count(2);
        CHECKS.due("17 notes(0, 1), counted since", 1022, x.notes(0, 1));
    }

    private static void refusals() {
        DebtFerry x = Checks.on(FIVE);
        int[][] unknown = {{-1, 0}, {0, -1}, {5, 0}, {0, 5}, {3, 3}};
        for (int[] n : unknown) {
            CHECKS.due("17 notes(" + n[0] + ", " + n[1] + ")", DebtFerry.UNKNOWN, x.notes(n[0], n[1]));
        }
        CHECKS.due("18 kinds(-1)", DebtFerry.UNKNOWN, x.kinds(-1));
        CHECKS.due("18 kinds(5)", DebtFerry.UNKNOWN, x.kinds(5));
        CHECKS.due("17 notes, no RIVER", DebtFerry.UNKNOWN, new DebtFerry().notes(0, 1));
        CHECKS.due("18 kinds, no RIVER", DebtFerry.UNKNOWN, new DebtFerry().kinds(0));
        CHECKS.due("19 often, no RIVER", DebtFerry.STATE, new DebtFerry().often());
    }

    private static void odds() {
        DebtFerry x = Checks.on(FIVE);
        int[][] due = {
            {0, 3, 1, 4}, {1, 3, 1, 2}, {0, 9, 1, 2}, {3, 9, 1, 2}, {0, 31, 1, 8}, {1, 31, 1, 2},
            {2, 31, 1, 4}, {3, 31, 1, 8}, {4, 31, 1, 32}, {4, 16, 0, 1}, {0, 1, 1, 2}
        };
        for (int[] d : due) {
            CHECKS.due("20 odds(" + d[0] + ", " + d[1] + ", 0)", d[2], x.odds(d[0], d[1], 0));
            CHECKS.due("20 odds(" + d[0] + ", " + d[1] + ", 1)", d[3], x.odds(d[0], d[1], 1));
        }
        CHECKS.due("20 NOTES stay", 5, x.owes(2, 0));
    }

    private static void oddsRefusals() {
        DebtFerry x = Checks.on(FIVE);
        int[][] lost = {{-1, 1, 0}, {5, 1, 0}, {0, -1, 0}, {0, 32, 0}, {0, 33, 1}, {0, 1, -1}, {0, 1, 2}, {0, 2, 0}, {0, 0, 1}};
        for (int[] d : lost) {
            CHECKS.due("20 odds(" + d[0] + ", " + d[1] + ", " + d[2] + ")", DebtFerry.LOST, x.odds(d[0], d[1], d[2]));
        }
        CHECKS.due("20 odds, no RIVER", DebtFerry.LOST, new DebtFerry().odds(0, 1, 0));
    }
}
