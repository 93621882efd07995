import java.math.BigInteger;

/** The boundary cases of promises 21 to 31, each under the sentence that names it. */
public final class SheetsEdgesTest {
    private static final Checks CHECKS = new Checks("SheetsEdgesTest");
    private static final int LEAST = Integer.MIN_VALUE, MOST = Integer.MAX_VALUE;
    private static final int UNKNOWN = -1, OUTSIDE = -2, NULL = -11, CAST = -12, INDEX = -13, SIZE = -14;
    /** A RIDER who owes 5, a FRIEND who owes 11, a BANKER who owes 17. */
    private static final String KINDS = "o113,r0023,f0506,b0980";

    public static void main(String[] args) {
        sheetRefusals();
        rowsOfNoughtToSixty();
        sizeBelowNought();
        aNewRowIsOfNoughts();
        sheetsApart();
        loseEdges();
        putRefusals();
        putIndex();
        bytesAreCut();
        shortsAreCut();
        intsAreNotCut();
        cellRefusals();
        cellFaultsInOrder();
        cellIndex();
        copyRefusals();
        copyFaultsInOrder();
        copyIndex();
        copyOfNone();
        copyOfAll();
        copyAsTheyWere();
        tellUnknown();
        tellOfTheLeastAndTheMost();
        hailEdges();
        traceWraps();
        asRefusals();
        asEachKind();
        faultOfTheLatest();
        manyEdges();
        theLastOfFiveHundredAndTwelve();
        CHECKS.close();
    }

    private static void sheetRefusals() {
        DebtFerry x = new DebtFerry();
        for (int k : new int[] {LEAST, -1, 4, MOST}) {
            x.put(0, 0, 0);
            CHECKS.answers("21 UNKNOWN", UNKNOWN, x, "sheet", k, 0, 1);
            CHECKS.answers("21 UNKNOWN ahead of OUTSIDE", UNKNOWN, x, "sheet", k, 3, 61);
            CHECKS.answers("21 UNKNOWN ahead of SIZE", UNKNOWN, x, "sheet", k, 0, -1);
            CHECKS.answers("21 fault() of one refused", 0, x, "fault");
        }
        for (int lane : new int[] {LEAST, -1, 3, MOST}) {
            x.put(0, 0, 0);
            CHECKS.answers("21 OUTSIDE: lane", OUTSIDE, x, "sheet", 0, lane, 1);
            CHECKS.answers("21 OUTSIDE ahead of SIZE", OUTSIDE, x, "sheet", 0, lane, -1);
            CHECKS.answers("21 fault() of one refused", 0, x, "fault");
        }
        for (int n : new int[] {61, 62, MOST}) {
            CHECKS.answers("21 OUTSIDE: n above 60", OUTSIDE, x, "sheet", 0, 0, n);
        }
        CHECKS.answers("21 there is nothing then", 0, x, "lose", 0);
    }

    private static void rowsOfNoughtToSixty() {
        String s = "a row of 0 .. 60 numbers";
        for (int lane = 0; lane <= 2; lane++) {
            DebtFerry x = new DebtFerry();
            CHECKS.answers(s, 1, x, "sheet", 0, lane, 0);
            CHECKS.answers(s, INDEX, x, "put", 0, 0, 1);
            CHECKS.answers(s, 1, x, "sheet", 0, lane, 1);
            CHECKS.answers(s, 1, x, "put", 0, 0, 1);
            CHECKS.answers(s, INDEX, x, "put", 0, 1, 1);
            CHECKS.answers(s, 1, x, "sheet", 0, lane, 60);
            CHECKS.answers(s, 1, x, "put", 0, 59, 1);
            CHECKS.answers(s, INDEX, x, "put", 0, 60, 1);
            CHECKS.answers("a row of no numbers is not nothing", 1, x, "sheet", 1, lane, 0);
            CHECKS.answers("a row of no numbers is not nothing", 1, x, "lose", 1);
        }
    }

    private static void sizeBelowNought() {
        DebtFerry x = new DebtFerry();
        Checks.row(x, 0, 1, 7);
        for (int n : new int[] {-1, -60, LEAST}) {
            CHECKS.answers("21 SIZE", SIZE, x, "sheet", 0, 2, n);
            CHECKS.answers("21 fault() tells it", 4, x, "fault");
        }
        CHECKS.answers("21 it changes nothing", 7, x, "cell", 0, 0, 1);
        CHECKS.answers("21 SIZE of one that had nothing", SIZE, x, "sheet", 1, 2, -1);
        CHECKS.answers("21 it has nothing then", 0, x, "lose", 1);
        CHECKS.answers("21 fault() is of the latest that names one", 4, x, "fault");
    }

    private static void aNewRowIsOfNoughts() {
        String s = "numbers (0 at first)";
        DebtFerry x = new DebtFerry();
        Checks.row(x, 0, 2, 1, 2, 3);
        x.sheet(0, 2, 2);
        CHECKS.answers(s, 0, x, "cell", 0, 0, 2);
        CHECKS.answers(s, 0, x, "cell", 0, 1, 2);
        CHECKS.answers("a shorter row ends sooner", DebtFerry.LOST, x, "cell", 0, 2, 2);
        x.sheet(0, 2, 3);
        CHECKS.answers("what stood behind a shorter row is gone", 0, x, "cell", 0, 2, 2);
        x.put(0, 0, 5);
        x.lose(0);
        x.sheet(0, 2, 1);
        CHECKS.answers("what was lost is gone", 0, x, "cell", 0, 0, 2);
        x.put(0, 0, 5);
        x.sheet(0, 0, 1);
        CHECKS.answers("a row of another LANE is new", 0, x, "cell", 0, 0, 0);
        x.sheet(3, 1, 60);
        for (int i = 0; i < 60; i++) {
            CHECKS.answers(s, 0, x, "cell", 3, i, 1);
        }
    }

    private static void sheetsApart() {
        DebtFerry x = new DebtFerry();
        for (int k = 0; k <= 3; k++) {
            Checks.row(x, k, k % 3, 10 + k);
        }
        for (int k = 0; k <= 3; k++) {
            CHECKS.answers("SHEETS 0 .. 3, each its own row", 10 + k, x, "cell", k, 0, k % 3);
        }
        x.lose(1);
        CHECKS.answers("the SHEET ahead of one lost", 10, x, "cell", 0, 0, 0);
        CHECKS.answers("the SHEET behind one lost", 12, x, "cell", 2, 0, 2);
        DebtFerry y = new DebtFerry();
        CHECKS.answers("another object has its own SHEETS", 0, y, "lose", 0);
    }

    private static void loseEdges() {
        DebtFerry x = new DebtFerry();
        for (int k : new int[] {LEAST, -1, 4, MOST}) {
            CHECKS.answers("22 UNKNOWN", UNKNOWN, x, "lose", k);
        }
        CHECKS.answers("22 0: it had nothing", 0, x, "lose", 3);
        x.sheet(3, 0, 0);
        CHECKS.answers("22 1", 1, x, "lose", 3);
        CHECKS.answers("22 0: it had nothing, again", 0, x, "lose", 3);
        CHECKS.answers("22 NULL then", NULL, x, "put", 3, 0, 0);
        x.lose(3);
        CHECKS.answers("22 names no FAULTS", 1, x, "fault");
        x.lose(4);
        CHECKS.answers("22 names no FAULTS, refused", 1, x, "fault");
    }

    private static void putRefusals() {
        DebtFerry x = new DebtFerry();
        for (int k : new int[] {LEAST, -1, 4, MOST}) {
            x.put(0, 0, 0);
            CHECKS.answers("23 UNKNOWN", UNKNOWN, x, "put", k, 0, 0);
            CHECKS.answers("23 UNKNOWN", UNKNOWN, x, "put", k, -1, 0);
            CHECKS.answers("23 fault() of one refused", 0, x, "fault");
        }
        for (int i : new int[] {LEAST, -1, 0, 60, MOST}) {
            CHECKS.answers("23 NULL ahead of INDEX", NULL, x, "put", 0, i, 0);
            CHECKS.answers("23 fault() tells it", 1, x, "fault");
        }
    }

    private static void putIndex() {
        DebtFerry x = new DebtFerry();
        Checks.row(x, 0, 0, 1, 2, 3);
        for (int i : new int[] {LEAST, -1, 3, 4, 59, 60, 256, MOST}) {
            CHECKS.answers("23 INDEX", INDEX, x, "put", 0, i, 9);
            CHECKS.answers("23 fault() tells it", 3, x, "fault");
        }
        for (int i = 0; i < 3; i++) {
            CHECKS.answers("23 it changes nothing", i + 1, x, "cell", 0, i, 0);
        }
        CHECKS.answers("23 the first cell", 1, x, "put", 0, 0, 7);
        CHECKS.answers("23 fault() of one that came to none", 0, x, "fault");
        CHECKS.answers("23 the last cell", 1, x, "put", 0, 2, 9);
        CHECKS.answers("23 the first cell", 7, x, "cell", 0, 0, 0);
        CHECKS.answers("23 the one between stays", 2, x, "cell", 0, 1, 0);
        CHECKS.answers("23 the last cell", 9, x, "cell", 0, 2, 0);
    }

    private static void cut(int lane, int[][] due) {
        DebtFerry x = new DebtFerry();
        x.sheet(0, lane, 1);
        for (int[] d : due) {
            CHECKS.answers("23 put of LANE " + lane, 1, x, "put", 0, 0, d[0]);
            CHECKS.due("cut to its LANE " + lane + ": " + d[0], d[1], x.cell(0, 0, lane));
        }
    }

    private static void bytesAreCut() {
        cut(0, new int[][] {
            {0, 0}, {127, 127}, {128, -128}, {129, -127}, {255, -1}, {256, 0}, {257, 1}, {383, 127}, {384, -128},
            {-1, -1}, {-128, -128}, {-129, 127}, {-256, 0}, {-257, -1}, {32767, -1}, {32768, 0}, {65535, -1},
            {MOST, -1}, {LEAST, 0}, {LEAST + 1, 1}
        });
    }

    private static void shortsAreCut() {
        cut(1, new int[][] {
            {0, 0}, {127, 127}, {128, 128}, {255, 255}, {32767, 32767}, {32768, -32768}, {65535, -1}, {65536, 0},
            {65537, 1}, {-1, -1}, {-32768, -32768}, {-32769, 32767}, {-65536, 0}, {MOST, -1}, {LEAST, 0},
            {LEAST + 1, 1}
        });
    }

    private static void intsAreNotCut() {
        cut(2, new int[][] {
            {0, 0}, {-1, -1}, {128, 128}, {32768, 32768}, {65536, 65536}, {-32769, -32769}, {MOST, MOST}, {LEAST, LEAST}
        });
    }

    private static void lost(String s, DebtFerry x, int fault, int k, int i, int lane) {
        CHECKS.answers(s, DebtFerry.LOST, x, "cell", k, i, lane);
        CHECKS.answers(s, fault, x, "fault");
    }

    private static void cellRefusals() {
        DebtFerry x = new DebtFerry();
        Checks.row(x, 0, 0, 1);
        for (int k : new int[] {LEAST, -1, 4, MOST}) {
            x.put(0, -1, 0);
            lost("24 UNKNOWN", x, 0, k, 0, 0);
        }
        for (int lane : new int[] {LEAST, -1, 3, MOST}) {
            x.put(0, -1, 0);
            lost("24 OUTSIDE: lane", x, 0, 0, 0, lane);
            x.put(0, -1, 0);
            lost("24 OUTSIDE: lane, ahead of NULL", x, 0, 1, 0, lane);
        }
    }

    private static void cellFaultsInOrder() {
        DebtFerry x = new DebtFerry();
        for (int lane = 0; lane <= 2; lane++) {
            Checks.row(x, 0, lane, 1);
            for (int taken = 0; taken <= 2; taken++) {
                if (taken != lane) {
                    lost("24 CAST", x, 2, 0, 0, taken);
                    lost("24 CAST ahead of INDEX", x, 2, 0, -1, taken);
                    lost("24 CAST ahead of INDEX", x, 2, 0, 1, taken);
                }
            }
            lost("24 nothing is no CAST, but NULL", x, 1, 1, 0, lane);
            lost("24 NULL ahead of INDEX", x, 1, 1, -1, lane);
            CHECKS.answers("24 of its LANE", 1, x, "cell", 0, 0, lane);
            CHECKS.answers("24 fault() of one that came to none", 0, x, "fault");
        }
        x.sheet(2, 0, 0);
        lost("24 a row of no numbers is of its LANE", x, 2, 2, 0, 1);
        lost("24 a row of no numbers has no cell", x, 3, 2, 0, 0);
    }

    private static void cellIndex() {
        DebtFerry x = new DebtFerry();
        Checks.row(x, 0, 1, 5, 6, 7);
        for (int i : new int[] {LEAST, -1, 3, 59, 60, MOST}) {
            lost("24 INDEX", x, 3, 0, i, 1);
        }
        CHECKS.answers("24 the first", 5, x, "cell", 0, 0, 1);
        CHECKS.answers("24 the last", 7, x, "cell", 0, 2, 1);
    }

    private static void copyRefusals() {
        DebtFerry x = new DebtFerry();
        Checks.row(x, 0, 0, 1);
        for (int k : new int[] {LEAST, -1, 4, MOST}) {
            x.put(0, -1, 0);
            CHECKS.answers("25 UNKNOWN: the first", UNKNOWN, x, "copy", k, 0, 0, 0, 1);
            CHECKS.answers("25 fault() of one refused", 0, x, "fault");
            x.put(0, -1, 0);
            CHECKS.answers("25 UNKNOWN: the other", UNKNOWN, x, "copy", 0, 0, k, 0, 1);
            CHECKS.answers("25 fault() of one refused", 0, x, "fault");
            CHECKS.answers("25 UNKNOWN: the other, ahead of NULL", UNKNOWN, x, "copy", 1, -1, k, -1, -1);
            CHECKS.answers("25 UNKNOWN: both", UNKNOWN, x, "copy", k, 0, k, 0, 0);
        }
    }

    private static void copyFaultsInOrder() {
        DebtFerry x = new DebtFerry();
        for (int a = 0; a <= 2; a++) {
            Checks.row(x, a, a, 1);
        }
        for (int a = 0; a <= 2; a++) {
            CHECKS.answers("25 NULL: the first", NULL, x, "copy", 3, 0, a, 0, 0);
            CHECKS.answers("25 NULL: the other", NULL, x, "copy", a, 0, 3, 0, 0);
            CHECKS.answers("25 NULL ahead of INDEX", NULL, x, "copy", a, -1, 3, -1, -1);
            CHECKS.answers("25 fault() tells it", 1, x, "fault");
            for (int b = 0; b <= 2; b++) {
                CHECKS.answers("25 CAST (unlike LANES)", a == b ? 0 : CAST, x, "copy", a, 0, b, 0, 0);
                CHECKS.answers("25 fault() tells it", a == b ? 0 : 2, x, "fault");
                CHECKS.answers("25 CAST ahead of INDEX", a == b ? INDEX : CAST, x, "copy", a, -1, b, 2, -1);
            }
        }
        CHECKS.answers("25 NULL: the same", NULL, x, "copy", 3, 0, 3, 0, 0);
    }

    private static void copyIndex() {
        String s = "25 INDEX: i, j, n below 0 or beyond";
        DebtFerry x = new DebtFerry();
        Checks.row(x, 0, 0, 1, 2, 3);
        Checks.row(x, 1, 0, 4, 5);
        int[][] index = {
            {-1, 0, 0}, {-1, 0, 1}, {LEAST, 0, 1}, {0, -1, 0}, {0, -1, 1}, {0, LEAST, 1}, {0, 0, -1}, {0, 0, LEAST},
            {3, 0, 1}, {4, 0, 0}, {2, 0, 2}, {MOST, 0, 1}, {0, 2, 1}, {0, 3, 0}, {0, 1, 2}, {0, MOST, 1}, {0, 0, 3},
            {0, 0, MOST}, {1, 1, MOST}, {MOST, MOST, MOST}, {3, 2, -1}, {LEAST, LEAST, LEAST}
        };
        for (int[] a : index) {
            CHECKS.answers(s, INDEX, x, "copy", 0, a[0], 1, a[1], a[2]);
            CHECKS.answers(s, 3, x, "fault");
        }
        int[] first = {1, 2, 3};
        int[] other = {4, 5};
        for (int i = 0; i < 3; i++) {
            CHECKS.answers("25 it changes nothing", first[i], x, "cell", 0, i, 0);
        }
        for (int i = 0; i < 2; i++) {
            CHECKS.answers("25 it changes nothing", other[i], x, "cell", 1, i, 0);
        }
    }

    private static void copyOfNone() {
        String s = "25 n cells, none";
        DebtFerry x = new DebtFerry();
        Checks.row(x, 0, 0, 1, 2, 3);
        x.sheet(1, 0, 0);
        for (int i = 0; i <= 3; i++) {
            CHECKS.answers(s, 0, x, "copy", 0, i, 1, 0, 0);
            CHECKS.answers(s, 0, x, "fault");
            CHECKS.answers(s, 0, x, "copy", 1, 0, 0, i, 0);
        }
        CHECKS.answers("25 one cell of a row of none", INDEX, x, "copy", 1, 0, 0, 0, 1);
        CHECKS.answers("25 one cell to a row of none", INDEX, x, "copy", 0, 0, 1, 0, 1);
        CHECKS.answers("25 none beyond a row of none", INDEX, x, "copy", 1, 1, 0, 0, 0);
        CHECKS.answers("25 none to beyond a row of none", INDEX, x, "copy", 0, 0, 1, 1, 0);
    }

    private static void copyOfAll() {
        DebtFerry x = new DebtFerry();
        x.sheet(0, 2, 60);
        x.sheet(1, 2, 60);
        for (int i = 0; i < 60; i++) {
            x.put(0, i, 100000 * (i + 1));
        }
        CHECKS.answers("25 all of the longest row: n", 60, x, "copy", 0, 0, 1, 0, 60);
        for (int i = 0; i < 60; i++) {
            CHECKS.answers("25 all of the longest row", 100000 * (i + 1), x, "cell", 1, i, 2);
        }
        CHECKS.answers("25 one more", INDEX, x, "copy", 0, 0, 1, 0, 61);
        CHECKS.answers("25 the last to the first", 1, x, "copy", 0, 59, 1, 0, 1);
        CHECKS.answers("25 the last to the first", 6000000, x, "cell", 1, 0, 2);
        CHECKS.answers("25 the first to the last", 1, x, "copy", 0, 0, 1, 59, 1);
        CHECKS.answers("25 the first to the last", 100000, x, "cell", 1, 59, 2);
    }

    private static void copyAsTheyWere() {
        String s = "25 perhaps the same, as they were";
        for (int lane = 0; lane <= 2; lane++) {
            DebtFerry x = new DebtFerry();
            Checks.row(x, 0, lane, 1, 2, 3, 4);
            CHECKS.answers(s, 3, x, "copy", 0, 0, 0, 1, 3);
            int[] onwards = {1, 1, 2, 3};
            for (int i = 0; i < 4; i++) {
                CHECKS.answers(s, onwards[i], x, "cell", 0, i, lane);
            }
            Checks.row(x, 0, lane, 1, 2, 3, 4);
            CHECKS.answers(s, 3, x, "copy", 0, 1, 0, 0, 3);
            int[] back = {2, 3, 4, 4};
            for (int i = 0; i < 4; i++) {
                CHECKS.answers(s, back[i], x, "cell", 0, i, lane);
            }
            CHECKS.answers(s, 4, x, "copy", 0, 0, 0, 0, 4);
            for (int i = 0; i < 4; i++) {
                CHECKS.answers(s, back[i], x, "cell", 0, i, lane);
            }
        }
    }

    private static void tellUnknown() {
        DebtFerry x = Checks.on(KINDS);
        for (int p : new int[] {LEAST, -1, 3, 5, MOST}) {
            CHECKS.answers("26 UNKNOWN", UNKNOWN, x, "tell", p);
        }
        CHECKS.answers("26 UNKNOWN leaves no TRACE", 0, x, "trace");
        CHECKS.answers("26 UNKNOWN, no RIVER", UNKNOWN, new DebtFerry(), "tell", 0);
    }

    private static void tellOfTheLeastAndTheMost() {
        DebtFerry none = Checks.on("o113,r0000,f0000,b0000");
        CHECKS.answers("26 a RIDER who owes nothing", 0, none, "tell", 0);
        CHECKS.answers("26 a FRIEND who owes nothing", 100, none, "tell", 1);
        CHECKS.answers("26 a BANKER who owes nothing", 100, none, "tell", 2);
        DebtFerry most = Checks.on("o335,r009999,f090999,b099099,r099909,f099990");
        CHECKS.answers("26 a RIDER who owes the most", 36, most, "tell", 0);
        CHECKS.answers("26 a FRIEND who owes the most", 136, most, "tell", 1);
        CHECKS.answers("26 a BANKER who owes the most", 172, most, "tell", 2);
        DebtFerry x = Checks.on(KINDS);
        x.tell(2);
        // 3, then FRIEND's 2 with RIDER's 1, then RIDER's 1 once more.
        CHECKS.answers("29 numbers as the bodies begin", ((3 * 31 + 2) * 31 + 1) * 31 + 1, x, "trace");
    }

    private static void hailEdges() {
        DebtFerry x = Checks.on(KINDS);
        for (int p : new int[] {LEAST, -1, 3, 5, MOST}) {
            CHECKS.answers("27 UNKNOWN", UNKNOWN, x, "hail", p);
        }
        CHECKS.answers("27 UNKNOWN leaves no TRACE", 0, x, "trace");
        DebtFerry last = Checks.on("o115,b000000,r000000,f000000,b000000,r000000");
        CHECKS.answers("27 BANKERS have their own", 40, last, "hail", 0);
        CHECKS.answers("27 by a lent body", 1, last, "hail", 1);
        CHECKS.answers("27 a FRIEND by a lent body", 2, last, "hail", 2);
        CHECKS.answers("27 BANKERS have their own", 40, last, "hail", 3);
        CHECKS.answers("27 by a lent body, the last", 4, last, "hail", 4);
        CHECKS.answers("29 numbers 5, 4, 4, 5, 4", (((5 * 31 + 4) * 31 + 4) * 31 + 5) * 31 + 4, last, "trace");
    }

    /** TRACE as numbers without an end tell it, brought back to an int only to be looked at. */
    private static void traceWraps() {
        String s = "29 an int that wraps";
        DebtFerry x = Checks.on(KINDS);
        BigInteger whole = BigInteger.ZERO;
        boolean wasBelow = false;
        for (int k = 0; k < 100; k++) {
            x.hail(2);
            whole = whole.multiply(BigInteger.valueOf(31)).add(BigInteger.valueOf(5));
            CHECKS.answers(s, whole.intValue(), x, "trace");
            wasBelow |= x.trace() < 0;
        }
        CHECKS.holds(s + ": it was below 0 once", wasBelow);
        // Behind six of them it is 147917280, so the seventh is the first beyond an int.
        DebtFerry y = Checks.on(KINDS);
        long told = 0;
        for (int k = 0; k < 7; k++) {
            y.hail(2);
            told = told * 31 + 5;
        }
        CHECKS.holds(s + ": beyond an int", told > MOST);
        CHECKS.answers(s, told - (1L << 32) * ((told + (1L << 31)) >> 32), y, "trace");
    }

    private static void asRefusals() {
        DebtFerry x = Checks.on(KINDS);
        for (int p : new int[] {LEAST, -1, 3, 5, MOST}) {
            x.as(0, 2);
            CHECKS.answers("28 UNKNOWN", UNKNOWN, x, "as", p, 0);
            CHECKS.answers("28 UNKNOWN ahead of OUTSIDE", UNKNOWN, x, "as", p, 3);
            CHECKS.answers("28 fault() of one refused", 0, x, "fault");
        }
        for (int kind : new int[] {LEAST, -1, 3, MOST}) {
            for (int p = 0; p <= 2; p++) {
                x.as(0, 2);
                CHECKS.answers("28 OUTSIDE", OUTSIDE, x, "as", p, kind);
                CHECKS.answers("28 fault() of one refused", 0, x, "fault");
            }
        }
        CHECKS.answers("28 UNKNOWN, no RIVER", UNKNOWN, new DebtFerry(), "as", 0, 0);
    }

    private static void asEachKind() {
        int[][] due = {{1, CAST, CAST}, {1, 1, CAST}, {1, 1, 1}};
        DebtFerry x = Checks.on(KINDS);
        for (int p = 0; p <= 2; p++) {
            for (int kind = 0; kind <= 2; kind++) {
                CHECKS.answers("28 each is a RIDER, too; a BANKER is a FRIEND", due[p][kind], x, "as", p, kind);
                CHECKS.answers("28 fault()", due[p][kind] == CAST ? 2 : 0, x, "fault");
                CHECKS.answers("28 one's kind stays", p, x, "ofPerson", p, 0);
            }
        }
    }

    private static void faultOfTheLatest() {
        CHECKS.answers("30 0 ahead of any", 0, new DebtFerry(), "fault");
        DebtFerry x = Checks.on(KINDS);
        int[][] puts = {{0, -1, 3}, {3, 0, 1}, {0, 0, 0}, {9, 0, 0}, {0, 99, 3}};
        for (int[] p : puts) {
            x.put(p[0], p[1], 111);
            CHECKS.answers("30 of the latest call that names one", p[2], x, "fault");
            CHECKS.answers("30 asked again", p[2], x, "fault");
        }
        x.loads(0, 0, 0, 0, 0);
        CHECKS.answers("30 it came to none", 0, x, "fault");
        x.put(0, -1, 0);
        x.loads(0, 0, 0, 1, 0);
        CHECKS.answers("30 refused behind its FAULTS, by a cell", 0, x, "fault");
        x.put(0, -1, 0);
        x.river(0, 0, 0, 3);
        CHECKS.answers("30 a FIRST FAULT is none of FAULTS", 0, x, "fault");
        x.put(0, -1, 0);
        x.river(0, 0, 0, 22);
        CHECKS.answers("30 a TEXT that is taken", 0, x, "fault");
        x.sheet(0, 0, -1);
        x.copy(0, 0, 0, 0, 0);
        CHECKS.answers("30 a copy of none", 0, x, "fault");
        x.as(0, 1);
        x.cell(0, 0, 0);
        CHECKS.answers("30 a cell that is there", 0, x, "fault");
        x.as(0, 1);
        x.lose(0);
        x.tell(9);
        x.many(9);
        CHECKS.answers("30 calls that name none leave it", 2, x, "fault");
    }

    private static void manyEdges() {
        DebtFerry none = new DebtFerry();
        DebtFerry x = Checks.on(KINDS);
        for (int what : new int[] {LEAST, -1, 4, MOST}) {
            CHECKS.answers("31 OUTSIDE", OUTSIDE, x, "many", what);
            CHECKS.answers("31 OUTSIDE, no RIVER", OUTSIDE, none, "many", what);
        }
        int[] due = {3, 1, 1, 0};
        for (int what = 0; what <= 3; what++) {
            CHECKS.answers("31 0 all without a RIVER", 0, none, "many", what);
            CHECKS.answers("31 how many", due[what], x, "many", what);
        }
    }

    private static void theLastOfFiveHundredAndTwelve() {
        String s = "at most 512 calls after it has been made";
        DebtFerry x = new DebtFerry();
        Checks.row(x, 0, 2, 0);
        for (int call = 3; call < 512; call++) {
            x.put(0, 0, call);
        }
        CHECKS.answers(s, 511, x, "cell", 0, 0, 2);
    }
}
