/** Promises 12 to 14: cross, loan, forgave. */
public final class CrossingsTest {
    private static final Checks CHECKS = new Checks("CrossingsTest");
    private static final String FIVE = "o235,r002100,f030001,b150020,r000003,f000100";

    public static void main(String[] args) {
        cross();
        crossRefusals();
        loan();
        loanIsNineAtMost();
        loanRefusals();
        forgave();
        forgaveRefusals();
        CHECKS.close();
    }

    private static void row(String what, DebtFerry x, int... due) {
        CHECKS.due("12 how many, " + what, due.length == 0 ? -9 : due.length, x.cross(-1));
        for (int k = 0; k <= 4; k++) {
            CHECKS.due("12 LOAD " + k + ", " + what, k < due.length ? due[k] : -9, x.cross(k));
        }
    }

    private static void cross() {
        DebtFerry x = Checks.on(FIVE);
        row("none can bring the lame", x);
        x.build(3);
        row("two of three", x, 3, 28);
        row("five alone", Checks.on("o115,r001000,r010000,r010000,r010000,r010000"), 1, 2, 4, 8, 16);
        row("the first of several", Checks.on("o213,r0050,r0003,r0010"), 1, 6);
        row("the least set goes first", Checks.on("o213,r0050,r1003,r0010"), 3, 4);
        row("the lame pulls", Checks.on("o213,r1050,r0003,r0010"));
        row("one DRIFTS alone", Checks.on("o112,r001,r000"));
        row("both at once", Checks.on("o212,r001,r000"), 3);
        row("a QUARREL", Checks.on("o212,r001,r010"), 1, 2);
    }

    private static void crossRefusals() {
        DebtFerry none = new DebtFerry();
        CHECKS.due("12 cross(-2), no RIVER", DebtFerry.STATE, none.cross(-2));
        CHECKS.due("12 cross(0), no RIVER", DebtFerry.STATE, none.cross(0));
        DebtFerry x = Checks.on(FIVE);
        for (int k : new int[] {-2, 5, Integer.MIN_VALUE, Integer.MAX_VALUE}) {
            CHECKS.due("12 cross(" + k + ")", DebtFerry.OUTSIDE, x.cross(k));
        }
    }

    private static void raised(DebtFerry x, int p, int set, int pence, int whom) {
        CHECKS.due("13 loan(" + p + ", " + set + ", 0)", pence, x.loan(p, set, 0));
        CHECKS.due("13 loan(" + p + ", " + set + ", 1)", whom, x.loan(p, set, 1));
    }

    private static void loan() {
        DebtFerry x = Checks.on("o213,r0050,r1003,r0010");
        raised(x, 0, 7, 0, -9);
        raised(x, 1, 7, 3, 0);
        raised(x, 2, 7, 5, 0);
        raised(x, 2, 4, 0, -9);
        CHECKS.due("13 NOTES stay", 3, x.owes(1, 2));
        CHECKS.due("13 NOTES stay", 0, x.owes(1, 0));
        DebtFerry y = Checks.on("o233,r0050,r0003,r0010");
        raised(y, 1, 3, 5, 0);
        raised(y, 2, 6, 3, 1);
        DebtFerry five = Checks.on("o115,r009999,r000000,r000000,r000000,r000000");
        raised(five, 4, 31, -9, -9);
        raised(five, 4, 16, 1, 0);
        DebtFerry drifts = Checks.on("o132,f000,b000");
        raised(drifts, 0, 1, 2, 1);
        raised(drifts, 0, 3, 1, 1);
        raised(drifts, 1, 2, 2, 0);
        DebtFerry quarrel = Checks.on("o112,r004,r040");
        raised(quarrel, 0, 3, 1, 1);
        raised(quarrel, 1, 3, 1, 0);
    }

    private static void loanIsNineAtMost() {
        DebtFerry x = Checks.on("o213,r0058,r0803,r0010");
        raised(x, 1, 7, 3, 2);
        x = Checks.on("o213,r0099,r0908,r0010");
        raised(x, 1, 7, -9, -9);
        x = Checks.on("o213,r0098,r0908,r0010");
        raised(x, 1, 7, 1, 2);
        x = Checks.on("o213,r0080,r0000,r0010");
        raised(x, 1, 7, 9, 0);
        x = Checks.on("o213,r0090,r0000,r0010");
        raised(x, 1, 7, -9, -9);
    }

    private static void loanRefusals() {
        DebtFerry x = Checks.on(FIVE);
        CHECKS.due("13 loan(-1, -1, -1)", DebtFerry.UNKNOWN, x.loan(-1, -1, -1));
        CHECKS.due("13 loan(5, 1, 0)", DebtFerry.UNKNOWN, x.loan(5, 1, 0));
        CHECKS.due("13 loan(0, -1, 0)", DebtFerry.OUTSIDE, x.loan(0, -1, 0));
        CHECKS.due("13 loan(0, 32, 0)", DebtFerry.OUTSIDE, x.loan(0, 32, 0));
        CHECKS.due("13 loan(0, 1, -1)", DebtFerry.OUTSIDE, x.loan(0, 1, -1));
        CHECKS.due("13 loan(0, 2, 2)", DebtFerry.OUTSIDE, x.loan(0, 2, 2));
        CHECKS.due("13 loan(0, 2, 0)", DebtFerry.STATE, x.loan(0, 2, 0));
        CHECKS.due("13 loan(0, 0, 1)", DebtFerry.STATE, x.loan(0, 0, 1));
        CHECKS.due("13 loan, no RIVER", DebtFerry.UNKNOWN, new DebtFerry().loan(0, 1, 0));
    }

    private static void forgave() {
        DebtFerry x = Checks.on(FIVE);
        int[][] due = {{0, 0}, {16, 0}, {3, -9}, {7, -9}, {15, -9}, {18, -9}, {24, 16}, {31, 31}};
        for (int[] d : due) {
            CHECKS.due("14 forgave(" + d[0] + ")", d[1], x.forgave(d[0]));
        }
        CHECKS.due("14 NOTES stay", 3, x.owes(3, 4));
        CHECKS.due("14 the least of several", 2, Checks.on("o213,b0011,r0000,r0000").forgave(7));
        CHECKS.due("14 the fewest ahead of the least", 4,
            Checks.on("o215,r000000,r000000,r000000,b010100,f001100").forgave(31));
        CHECKS.due("14 of the LOAD alone", -9, Checks.on("o112,r001,r000").forgave(1));
        CHECKS.due("14 of both", 2, Checks.on("o112,r001,r000").forgave(3));
    }

    private static void forgaveRefusals() {
        CHECKS.due("14 forgave(-1), no RIVER", DebtFerry.STATE, new DebtFerry().forgave(-1));
        DebtFerry x = Checks.on(FIVE);
        for (int set : new int[] {-1, 32, Integer.MIN_VALUE, Integer.MAX_VALUE}) {
            CHECKS.due("14 forgave(" + set + ")", DebtFerry.OUTSIDE, x.forgave(set));
        }
    }
}
