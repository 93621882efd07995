/** Promises 21 to 31: sheet, lose, put, cell, copy, tell, hail, as, trace, fault, many. */
public final class SheetsTest {
    private static final Checks CHECKS = new Checks("SheetsTest");
    /** A RIDER who owes 5, a FRIEND who owes 11, a BANKER who owes 17. */
    private static final String KINDS = "o113,r0023,f0506,b0980";
    private static final int LEAST = Integer.MIN_VALUE, MOST = Integer.MAX_VALUE;

    public static void main(String[] args) {
        sheet();
        sheetAnew();
        lose();
        put();
        cell();
        copy();
        copyOverlaps();
        copyFaults();
        tellAndHail();
        traceWraps();
        as();
        fault();
        many();
        CHECKS.close();
    }

    private static void sheet() {
        DebtFerry x = new DebtFerry();
        for (int k = 0; k <= 3; k++) {
            for (int lane = 0; lane <= 2; lane++) {
                CHECKS.due("21 sheet(" + k + ", " + lane + ", 60)", 1, x.sheet(k, lane, 60));
                CHECKS.due("21 its last cell", 0, x.cell(k, 59, lane));
                CHECKS.due("21 sheet of 0 cells", 1, x.sheet(k, lane, 0));
                CHECKS.due("21 no cell", DebtFerry.LOST, x.cell(k, 0, lane));
                CHECKS.due("21 fault()", 3, x.fault());
            }
        }
        CHECKS.due("21 sheet(-1, 9, 99)", DebtFerry.UNKNOWN, x.sheet(-1, 9, 99));
        CHECKS.due("21 fault() of one refused", 0, x.fault());
        CHECKS.due("21 sheet(4, 0, 1)", DebtFerry.UNKNOWN, x.sheet(4, 0, 1));
        CHECKS.due("21 sheet(0, -1, -1)", DebtFerry.OUTSIDE, x.sheet(0, -1, -1));
        CHECKS.due("21 sheet(0, 3, 1)", DebtFerry.OUTSIDE, x.sheet(0, 3, 1));
        CHECKS.due("21 sheet(0, 0, 61)", DebtFerry.OUTSIDE, x.sheet(0, 0, 61));
        CHECKS.due("21 sheet(0, 0, most)", DebtFerry.OUTSIDE, x.sheet(0, 0, MOST));
        CHECKS.due("21 sheet(0, 0, -1)", -14, x.sheet(0, 0, -1));
        CHECKS.due("21 fault()", 4, x.fault());
        CHECKS.due("21 sheet(0, 0, least)", -14, x.sheet(0, 0, LEAST));
        CHECKS.due("21 sheet(0, 0, 1)", 1, x.sheet(0, 0, 1));
        CHECKS.due("21 fault() then", 0, x.fault());
    }

    private static void sheetAnew() {
        DebtFerry x = new DebtFerry();
        Checks.row(x, 0, 2, 7, 8, 9);
        x.sheet(0, 2, -1);
        x.sheet(0, 3, 5);
        x.sheet(0, 0, 61);
        CHECKS.due("21 refused, the row stays", 9, x.cell(0, 2, 2));
        CHECKS.due("21 anew", 1, x.sheet(0, 2, 2));
        CHECKS.due("21 cell 0 anew", 0, x.cell(0, 0, 2));
        CHECKS.due("21 cell 1 anew", 0, x.cell(0, 1, 2));
        CHECKS.due("21 no cell 2", DebtFerry.LOST, x.cell(0, 2, 2));
        x.sheet(0, 2, 3);
        CHECKS.due("21 cell 2 anew", 0, x.cell(0, 2, 2));
        x.put(0, 2, 300);
        x.sheet(0, 0, 3);
        CHECKS.due("21 of another LANE", DebtFerry.LOST, x.cell(0, 2, 2));
        CHECKS.due("21 fault()", 2, x.fault());
        CHECKS.due("21 anew of another LANE", 0, x.cell(0, 2, 0));
    }

    private static void lose() {
        DebtFerry x = new DebtFerry();
        for (int k = 0; k <= 3; k++) {
            CHECKS.due("22 lose(" + k + ") of nothing", 0, x.lose(k));
            x.sheet(k, 1, 0);
            CHECKS.due("22 lose(" + k + ")", 1, x.lose(k));
            CHECKS.due("22 lose(" + k + ") again", 0, x.lose(k));
            CHECKS.due("22 put then", -11, x.put(k, 0, 1));
        }
        CHECKS.due("22 lose(-1)", DebtFerry.UNKNOWN, x.lose(-1));
        CHECKS.due("22 lose(4)", DebtFerry.UNKNOWN, x.lose(4));
        CHECKS.due("22 lose names no FAULTS", 1, x.fault());
        Checks.row(x, 0, 0, 5);
        x.lose(0);
        x.sheet(0, 0, 1);
        CHECKS.due("22 a new row is of 0", 0, x.cell(0, 0, 0));
    }

    private static void put() {
        DebtFerry x = new DebtFerry();
        int[] told = {0, 1, -1, 127, 128, 255, 256, -128, -129, 32767, 32768, 65535, 65536, -32768, -32769, MOST, LEAST};
        for (int v : told) {
            x = new DebtFerry();
            for (int lane = 0; lane <= 2; lane++) {
                x.sheet(lane, lane, 3);
                CHECKS.due("23 put " + v, 1, x.put(lane, 1, v));
                long due = lane == 0 ? (byte) v : lane == 1 ? (short) v : v;
                CHECKS.due("23 " + v + " cut to LANE " + lane, due, x.cell(lane, 1, lane));
                CHECKS.due("23 the cell ahead", 0, x.cell(lane, 0, lane));
                CHECKS.due("23 the cell behind", 0, x.cell(lane, 2, lane));
            }
        }
        CHECKS.due("23 put(-1, ..)", DebtFerry.UNKNOWN, x.put(-1, -1, 0));
        CHECKS.due("23 put(4, ..)", DebtFerry.UNKNOWN, x.put(4, 0, 0));
        CHECKS.due("23 NULL ahead of INDEX", -11, x.put(3, -1, 0));
        CHECKS.due("23 fault()", 1, x.fault());
        CHECKS.due("23 INDEX below", -13, x.put(0, -1, 0));
        CHECKS.due("23 fault()", 3, x.fault());
        CHECKS.due("23 INDEX beyond", -13, x.put(0, 3, 0));
        CHECKS.due("23 INDEX, most", -13, x.put(0, MOST, 0));
        CHECKS.due("23 INDEX, least", -13, x.put(0, LEAST, 0));
        CHECKS.due("23 put", 1, x.put(0, 2, 0));
        CHECKS.due("23 fault() then", 0, x.fault());
    }

    private static void lost(String what, DebtFerry x, int k, int i, int lane, int fault) {
        CHECKS.due("24 cell, " + what, DebtFerry.LOST, x.cell(k, i, lane));
        CHECKS.due("24 fault(), " + what, fault, x.fault());
    }

    private static void cell() {
        DebtFerry x = new DebtFerry();
        Checks.row(x, 1, 1, 10, 20);
        CHECKS.due("24 cell(1, 0, 1)", 10, x.cell(1, 0, 1));
        CHECKS.due("24 cell(1, 1, 1)", 20, x.cell(1, 1, 1));
        CHECKS.due("24 fault()", 0, x.fault());
        lost("CAST ahead of INDEX", x, 1, -1, 0, 2);
        lost("UNKNOWN", x, -1, 0, 1, 0);
        lost("CAST", x, 1, 0, 2, 2);
        lost("UNKNOWN", x, 4, 0, 1, 0);
        lost("nothing is no CAST", x, 2, -1, 0, 1);
        lost("OUTSIDE", x, 1, 0, -1, 0);
        lost("INDEX below", x, 1, -1, 1, 3);
        lost("OUTSIDE", x, 2, 0, 3, 0);
        lost("INDEX beyond", x, 1, 2, 1, 3);
        lost("INDEX, most", x, 1, MOST, 1, 3);
    }

    private static void rowIs(String what, DebtFerry x, int k, int lane, int... due) {
        for (int i = 0; i < due.length; i++) {
            CHECKS.due("25 " + what + ", cell " + i, due[i], x.cell(k, i, lane));
        }
    }

    private static void copy() {
        DebtFerry x = new DebtFerry();
        Checks.row(x, 0, 2, 1, 2, 3, 4, 5);
        Checks.row(x, 1, 2, 6, 7, 8, 9);
        CHECKS.due("25 copy(0, 1, 1, 2, 2)", 2, x.copy(0, 1, 1, 2, 2));
        rowIs("to the other", x, 1, 2, 6, 7, 2, 3);
        rowIs("the first stays", x, 0, 2, 1, 2, 3, 4, 5);
        CHECKS.due("25 copy of all", 4, x.copy(1, 0, 0, 0, 4));
        rowIs("of all", x, 0, 2, 6, 7, 2, 3, 5);
        CHECKS.due("25 copy of none", 0, x.copy(0, 5, 1, 4, 0));
        CHECKS.due("25 fault()", 0, x.fault());
        Checks.row(x, 2, 2, 1);
        x.put(2, 0, 100000);
        x.copy(2, 0, 1, 0, 1);
        rowIs("an int is not cut", x, 1, 2, 100000, 7);
    }

    private static void copyOverlaps() {
        DebtFerry x = new DebtFerry();
        Checks.row(x, 0, 0, 1, 2, 3, 4, 5);
        CHECKS.due("25 copy to itself", 4, x.copy(0, 0, 0, 1, 4));
        rowIs("as they were, onwards", x, 0, 0, 1, 1, 2, 3, 4);
        CHECKS.due("25 copy to itself", 4, x.copy(0, 1, 0, 0, 4));
        rowIs("as they were, back", x, 0, 0, 1, 2, 3, 4, 4);
    }

    private static void copyFault(String what, DebtFerry x, int due, int[] a) {
        CHECKS.due("25 " + what, due, x.copy(a[0], a[1], a[2], a[3], a[4]));
        CHECKS.due("25 fault(), " + what, due < -10 ? -10 - due : 0, x.fault());
    }

    private static void copyFaults() {
        DebtFerry x = new DebtFerry();
        Checks.row(x, 0, 2, 1, 2, 3);
        Checks.row(x, 1, 2, 4, 5);
        Checks.row(x, 2, 1, 6);
        copyFault("UNKNOWN, the first", x, -1, new int[] {-1, 0, 0, 0, 0});
        copyFault("NULL, the first", x, -11, new int[] {3, -1, 2, -1, -1});
        copyFault("UNKNOWN, the other", x, -1, new int[] {3, 0, 4, 0, 0});
        copyFault("NULL, the other", x, -11, new int[] {0, -1, 3, -1, -1});
        copyFault("UNKNOWN, 4", x, -1, new int[] {4, 0, 0, 0, 0});
        copyFault("CAST", x, -12, new int[] {0, -1, 2, -1, -1});
        copyFault("UNKNOWN, the other -1", x, -1, new int[] {0, 0, -1, 0, 0});
        copyFault("CAST, back", x, -12, new int[] {2, 0, 0, 0, 0});
        int[][] index = {
            {0, -1, 1, 0, 1}, {0, 0, 1, -1, 1}, {0, 0, 1, 0, -1}, {0, 2, 1, 0, 2}, {0, 0, 1, 1, 2},
            {0, 4, 1, 0, 0}, {0, 0, 1, 3, 0}, {0, -1, 1, 0, 0}, {0, 0, 1, -1, 0}, {0, 1, 1, 1, MOST},
            {0, MOST, 1, 0, MOST}, {0, 0, 1, MOST, 2}, {0, LEAST, 1, 0, 2}, {0, 0, 1, 0, LEAST}
        };
        for (int[] a : index) {
            copyFault("INDEX", x, -13, a);
        }
        rowIs("nothing changed", x, 0, 2, 1, 2, 3);
        rowIs("nothing changed", x, 1, 2, 4, 5);
    }

    private static void tellAndHail() {
        DebtFerry x = Checks.on(KINDS);
        CHECKS.due("26 tell of a RIDER", 5, x.tell(0));
        CHECKS.due("29 trace", 1, x.trace());
        x = Checks.on(KINDS);
        CHECKS.due("26 tell of a FRIEND", 111, x.tell(1));
        CHECKS.due("29 trace", 2 * 31 + 1, x.trace());
        x = Checks.on(KINDS);
        CHECKS.due("26 tell of a BANKER", 17 + 100 + 17, x.tell(2));
        CHECKS.due("29 trace", 91327, x.trace());
        x = Checks.on(KINDS);
        CHECKS.due("27 hail of a RIDER", 0, x.hail(0));
        CHECKS.due("29 trace", 4, x.trace());
        CHECKS.due("27 hail of a FRIEND", 1, x.hail(1));
        CHECKS.due("29 trace", 4 * 31 + 4, x.trace());
        x = Checks.on(KINDS);
        CHECKS.due("27 hail of a BANKER", 40, x.hail(2));
        CHECKS.due("29 trace", 5, x.trace());
        CHECKS.due("26 tell(3)", DebtFerry.UNKNOWN, x.tell(3));
        CHECKS.due("26 tell(-1)", DebtFerry.UNKNOWN, x.tell(-1));
        CHECKS.due("27 hail(3)", DebtFerry.UNKNOWN, x.hail(3));
        CHECKS.due("27 hail(-1)", DebtFerry.UNKNOWN, x.hail(-1));
        CHECKS.due("29 trace stays", 5, x.trace());
        x.count(3);
        CHECKS.due("26 NOTES count once", 134, x.tell(2));
    }

    private static void traceWraps() {
        DebtFerry x = Checks.on(KINDS);
        int due = 0;
        for (int k = 0; k < 20; k++) {
            x.hail(2);
            due = due * 31 + 5;
            CHECKS.due("29 trace behind " + (k + 1), due, x.trace());
        }
    }

    private static void as() {
        DebtFerry x = Checks.on(KINDS);
        for (int p = 0; p <= 2; p++) {
            for (int kind = 0; kind <= 2; kind++) {
                CHECKS.due("28 as(" + p + ", " + kind + ")", kind <= p ? 1 : -12, x.as(p, kind));
                CHECKS.due("28 fault()", kind <= p ? 0 : 2, x.fault());
            }
        }
        x.as(0, 2);
        CHECKS.due("28 as(0, -1)", DebtFerry.OUTSIDE, x.as(0, -1));
        CHECKS.due("28 fault() of one refused", 0, x.fault());
        x.as(0, 2);
        CHECKS.due("28 as(3, 9)", DebtFerry.UNKNOWN, x.as(3, 9));
        CHECKS.due("28 fault() of one refused", 0, x.fault());
        CHECKS.due("28 as(-1, 0)", DebtFerry.UNKNOWN, x.as(-1, 0));
        CHECKS.due("28 as(2, 3)", DebtFerry.OUTSIDE, x.as(2, 3));
        CHECKS.due("28 as leaves no TRACE", 0, x.trace());
    }

    /** Calls that name no FAULTS leave fault() as it is; those that name one make it anew. */
    private static void fault() {
        DebtFerry x = Checks.on(KINDS);
        x.put(0, 99, 0);
        x.ofPerson(9, 0);
        x.owes(0, 1);
        x.lend(0, 0, 0);
        x.count(9);
        x.build(9);
        x.debt(9, 0);
        x.pullers(-1);
        x.fair(-1);
        x.cross(-2);
        x.loan(9, 0, 0);
        x.forgave(-1);
        x.reading(-1, 0);
        x.back(-1);
        x.notes(0, 0);
        x.kinds(9);
        x.often();
        x.odds(9, 0, 0);
        x.lose(9);
        x.tell(0);
        x.hail(0);
        x.trace();
        x.many(9);
        CHECKS.due("30 fault() stays", 3, x.fault());
        CHECKS.due("30 fault() again", 3, x.fault());
        x.river(9, 0, 0, 0);
        CHECKS.due("30 fault() behind river", 0, x.fault());
        x.put(0, 99, 0);
        x.loads(9, 0, 0, 0, 0);
        CHECKS.due("30 fault() behind loads", 0, x.fault());
        x.put(0, 99, 0);
        x.sheet(9, 0, 0);
        CHECKS.due("30 fault() behind sheet", 0, x.fault());
        x.put(0, 99, 0);
        x.put(9, 0, 0);
        CHECKS.due("30 fault() behind put", 0, x.fault());
        x.put(0, 99, 0);
        x.cell(9, 0, 0);
        CHECKS.due("30 fault() behind cell", 0, x.fault());
        x.put(0, 99, 0);
        x.copy(9, 0, 0, 0, 0);
        CHECKS.due("30 fault() behind copy", 0, x.fault());
        x.put(0, 99, 0);
        x.as(9, 0);
        CHECKS.due("30 fault() behind as", 0, x.fault());
    }

    private static void many() {
        DebtFerry x = Checks.on("o324,r00000,r00000,r00000,r00000");
        x.reading(1, 1);
        CHECKS.due("31 many(0)", 4, x.many(0));
        CHECKS.due("31 many(1)", 3, x.many(1));
        CHECKS.due("31 many(2)", 2, x.many(2));
        CHECKS.due("31 many(3)", 1, x.many(3));
        CHECKS.due("31 many(-1)", DebtFerry.OUTSIDE, x.many(-1));
        CHECKS.due("31 many(4)", DebtFerry.OUTSIDE, x.many(4));
        CHECKS.due("31 many(4), no RIVER", DebtFerry.OUTSIDE, new DebtFerry().many(4));
        CHECKS.due("31 many(3), no RIVER", 0, new DebtFerry().many(3));
    }
}
