/** Promises 8 to 11: debt, pullers, fair, loads. */
public final class LoadsTest {
    private static final Checks CHECKS = new Checks("LoadsTest");
    /** ROOM 2, TIMES 3; PERSON 2 is a lame BANKER, 1 and 4 are FRIENDS. */
    private static final String FIVE = "o235,r002100,f030001,b150020,r000003,f000100";

    public static void main(String[] args) {
        debt();
        debtEdges();
        pullers();
        fair();
        loadRefusals();
        loadsTold();
        loadsWrong();
        loadsRefusals();
        loadsFaults();
        loadsCells();
        CHECKS.close();
    }

    private static void debt() {
        DebtFerry x = Checks.on(FIVE);
        int[][] due = {
            {0, 1, 3}, {0, 3, 7}, {0, 5, 5}, {0, 7, 9}, {0, 9, 3}, {0, 31, 9},
            {1, 2, 3}, {1, 3, 9}, {1, 18, 5}, {1, 31, 11},
            {2, 4, 3}, {2, 5, 8}, {2, 12, 5}, {2, 31, 10},
            {3, 8, 3}, {3, 24, 9},
            {4, 16, 0}, {4, 20, 2}
        };
        for (int[] d : due) {
            CHECKS.due("8 debt(" + d[0] + ", " + d[1] + ")", d[2], x.debt(d[0], d[1]));
        }
    }

    private static void debtEdges() {
        DebtFerry x = Checks.on(FIVE);
        CHECKS.due("8 debt(-1, -1)", DebtFerry.UNKNOWN, x.debt(-1, -1));
        CHECKS.due("8 debt(5, 32)", DebtFerry.UNKNOWN, x.debt(5, 32));
        CHECKS.due("8 debt(0, -1)", DebtFerry.OUTSIDE, x.debt(0, -1));
        CHECKS.due("8 debt(0, 32)", DebtFerry.OUTSIDE, x.debt(0, 32));
        CHECKS.due("8 debt(1, 33)", DebtFerry.OUTSIDE, x.debt(1, 33));
        CHECKS.due("8 debt(0, 30)", DebtFerry.STATE, x.debt(0, 30));
        CHECKS.due("8 debt(4, 15)", DebtFerry.STATE, x.debt(4, 15));
        CHECKS.due("8 debt(0, 0)", DebtFerry.STATE, x.debt(0, 0));
        CHECKS.due("8 debt, no RIVER", DebtFerry.UNKNOWN, new DebtFerry().debt(0, 1));
        DebtFerry y = Checks.on("o132,f000,f000");
        CHECKS.due("8 a FRIEND's is 0 at least", 0, y.debt(0, 3));
        y.lend(0, 1, 9);
        CHECKS.due("8 a FRIEND's of 27", 26, y.debt(0, 3));
        CHECKS.due("8 a FRIEND's of 9", 8, y.debt(0, 1));
        y.count(1);
        CHECKS.due("8 a FRIEND's, TIMES 1", 8, y.debt(0, 3));
    }

    private static void pullers() {
        DebtFerry x = Checks.on(FIVE);
        int[][] due = {
            {0, 0}, {1, 1}, {3, 2}, {5, 4}, {6, 6}, {9, 9}, {10, 10}, {11, 2}, {12, 4},
            {16, 0}, {17, 1}, {18, 2}, {20, 4}, {24, 8}, {31, 2}
        };
        for (int[] d : due) {
            CHECKS.due("9 pullers(" + d[0] + ")", d[1], x.pullers(d[0]));
        }
        DebtFerry all = Checks.on("o114,r00111,r01011,r01101,r01110");
        CHECKS.due("9 all are PULLERS", 15, all.pullers(15));
        DebtFerry none = Checks.on("o132,r000,r000");
        CHECKS.due("9 it DRIFTS", 0, none.pullers(3));
    }

    private static void fair() {
        DebtFerry x = Checks.on(FIVE);
        int[][] due = {
            {0, 0}, {1, 1}, {2, 1}, {3, 1}, {4, 0}, {5, 0}, {6, 0}, {8, 1}, {9, 0}, {11, 0},
            {16, 0}, {17, 1}, {18, 1}, {24, 1}, {31, 0}
        };
        for (int[] d : due) {
            CHECKS.due("10 fair(" + d[0] + ")", d[1], x.fair(d[0]));
        }
        x.build(3);
        CHECKS.due("10 fair(11), ROOM 3", 1, x.fair(11));
        CHECKS.due("10 fair(15), ROOM 3", 0, x.fair(15));
        x.build(1);
        CHECKS.due("10 fair(3), ROOM 1", 0, x.fair(3));
        CHECKS.due("10 fair(1), ROOM 1", 1, x.fair(1));
    }

    private static void loadRefusals() {
        DebtFerry none = new DebtFerry();
        CHECKS.due("9 pullers(-1), no RIVER", DebtFerry.STATE, none.pullers(-1));
        CHECKS.due("10 fair(-1), no RIVER", DebtFerry.STATE, none.fair(-1));
        DebtFerry x = Checks.on(FIVE);
        for (int set : new int[] {-1, 32, 33, Integer.MAX_VALUE, Integer.MIN_VALUE}) {
            CHECKS.due("9 pullers(" + set + ")", DebtFerry.OUTSIDE, x.pullers(set));
            CHECKS.due("10 fair(" + set + ")", DebtFerry.OUTSIDE, x.fair(set));
        }
        DebtFerry two = Checks.on("o132,r000,r000");
        CHECKS.due("9 pullers(4) of two", DebtFerry.OUTSIDE, two.pullers(4));
    }

    private static void told(String what, DebtFerry x, int n, int... due) {
        int[] asked = {0, 1, 2, 3, 4, 10, 11, 12, 13, 14};
        for (int k = 0; k < asked.length; k++) {
            CHECKS.due("11 loads, " + what + ", what " + asked[k], due[k], x.loads(1, 1, 0, n, asked[k]));
            CHECKS.due("11 fault()", 0, x.fault());
        }
    }

    private static void loadsTold() {
        DebtFerry x = Checks.on(FIVE);
        Checks.row(x, 1, 1, 3, 24);
        told("two FAIR ones", x, 2, 2, -9, 27, 0, 0, 0, 1, 0, 1, 0);
        told("one of them", x, 1, 1, -9, 3, 0, 0, 0, 1, 0, 0, 0);
        told("none of them", x, 0, 0, -9, 0, 0, 0, 0, 0, 0, 0, 0);
        Checks.row(x, 1, 1, 9, 6, 16);
        told("QUARRELS and one that DRIFTS", x, 3, 0, -9, 31, 2, 1, 1, 1, 1, 1, 0);
        Checks.row(x, 1, 1, 7, 20, 3, 24);
        CHECKS.due("11 loads from 2 on", 2, x.loads(1, 1, 2, 2, 0));
        CHECKS.due("11 loads from 4 on", 0, x.loads(1, 1, 4, 0, 0));
        DebtFerry y = Checks.on("o132,r001,r000");
        Checks.row(y, 1, 1, 1, 2);
        told("of two PEOPLE", y, 2, 1, -9, 3, 0, 1, 1, 0, -9, -9, -9);
    }

    private static void wrong(String what, DebtFerry x, int n, int place) {
        int w = -100 - place;
        told(what, x, n, w, place, w, w, w, w, w, w, w, w);
    }

    private static void loadsWrong() {
        DebtFerry x = Checks.on(FIVE);
        Checks.row(x, 1, 1, 3, 0, 28);
        wrong("an empty one", x, 3, 1);
        Checks.row(x, 1, 1, 28);
        wrong("one of more than ROOM", x, 1, 0);
        x = Checks.on(FIVE);
        Checks.row(x, 1, 1, 1, 2, 4, 9);
        wrong("one who has crossed", x, 4, 3);
        told("ahead of it", x, 3, 2, -9, 7, 0, 0, 1, 1, 1, 0, 0);
        DebtFerry y = Checks.on("o132,r001,r000");
        Checks.row(y, 1, 1, 1, 1);
        wrong("no such PERSON, but a FIRST WRONG", y, 2, 1);
    }

    private static void loadsRefusals() {
        DebtFerry x = Checks.on(FIVE);
        Checks.row(x, 1, 1, 3, 24);
        x.put(3, 0, 0);
        CHECKS.due("11 loads(-1, ..)", DebtFerry.UNKNOWN, x.loads(-1, 9, 9, 99, 9));
        CHECKS.due("11 fault() of one refused", 0, x.fault());
        CHECKS.due("11 loads(4, ..)", DebtFerry.UNKNOWN, x.loads(4, 1, 0, 2, 0));
        CHECKS.due("11 lane -1", DebtFerry.OUTSIDE, x.loads(1, -1, 0, 2, 0));
        CHECKS.due("11 lane 3", DebtFerry.OUTSIDE, x.loads(1, 3, 0, 2, 0));
        CHECKS.due("11 n -1", DebtFerry.OUTSIDE, x.loads(1, 1, 0, -1, 0));
        CHECKS.due("11 n 21", DebtFerry.OUTSIDE, x.loads(1, 1, 0, 21, 0));
        CHECKS.due("11 n 20 is not refused", -13, x.loads(1, 1, 0, 20, 0));
        for (int what : new int[] {-1, 5, 9, 15, Integer.MIN_VALUE}) {
            CHECKS.due("11 what " + what, DebtFerry.OUTSIDE, x.loads(1, 1, 0, 2, what));
        }
        CHECKS.due("11 OUTSIDE ahead of CAST", DebtFerry.OUTSIDE, x.loads(1, 0, 0, 2, 5));
        CHECKS.due("11 OUTSIDE ahead of NULL", DebtFerry.OUTSIDE, x.loads(2, 0, 0, 21, 0));
    }

    private static void loadsFaults() {
        DebtFerry x = new DebtFerry();
        Checks.row(x, 1, 1, 3, 99);
        CHECKS.due("11 CAST", -12, x.loads(1, 2, 9, 2, 0));
        CHECKS.due("11 fault()", 2, x.fault());
        CHECKS.due("11 NULL", -11, x.loads(2, 2, 9, 2, 0));
        CHECKS.due("11 fault()", 1, x.fault());
        CHECKS.due("11 INDEX ahead of STATE", -13, x.loads(1, 1, 1, 2, 0));
        CHECKS.due("11 fault()", 3, x.fault());
        CHECKS.due("11 INDEX of none, beyond", -13, x.loads(1, 1, 3, 0, 0));
        CHECKS.due("11 INDEX of none, below", -13, x.loads(1, 1, -1, 0, 0));
        CHECKS.due("11 INDEX, i is huge", -13, x.loads(1, 1, Integer.MAX_VALUE, 20, 0));
        CHECKS.due("11 STATE ahead of a cell", DebtFerry.STATE, x.loads(1, 1, 0, 2, 0));
        CHECKS.due("11 fault() of STATE", 0, x.fault());
    }

    private static void loadsCells() {
        DebtFerry x = Checks.on(FIVE);
        Checks.row(x, 1, 1, 0, 32, -1, 3);
        CHECKS.due("11 a cell that is no set, behind a FIRST WRONG", DebtFerry.OUTSIDE, x.loads(1, 1, 0, 2, 0));
        CHECKS.due("11 the same, what 1", DebtFerry.OUTSIDE, x.loads(1, 1, 0, 2, 1));
        CHECKS.due("11 a cell below 0", DebtFerry.OUTSIDE, x.loads(1, 1, 2, 2, 0));
        CHECKS.due("11 cells ahead are not looked at", 1, x.loads(1, 1, 3, 1, 0));
        Checks.row(x, 1, 1, 3, 32);
        CHECKS.due("11 cells behind are not looked at", 1, x.loads(1, 1, 0, 1, 0));
        DebtFerry two = Checks.on("o132,r001,r000");
        Checks.row(two, 1, 1, 4);
        CHECKS.due("11 a set of PEOPLE that are not there", DebtFerry.OUTSIDE, two.loads(1, 1, 0, 1, 0));
    }
}
