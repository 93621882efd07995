/** The boundary cases of promises 12 to 14, each under the sentence that names it. */
public final class CrossingsEdgesTest {
    private static final Checks CHECKS = new Checks("CrossingsEdgesTest");
    private static final int LEAST = Integer.MIN_VALUE, MOST = Integer.MAX_VALUE;
    private static final int UNKNOWN = -1, OUTSIDE = -2, STATE = -3, NONE = -9;
    /** TIMES 1, and each owes more than those ahead, so that the last of a LOAD pulls it. */
    private static final String RISING = "o114,r00001,r02000,r03000,r04000";

    public static void main(String[] args) {
        crossRefusals();
        crossByRoom();
        fewestAheadOfFirst();
        fiveLoads();
        noLameOnePulls();
        thereAreNone();
        crossFollowsChanges();
        loanRefusals();
        theyDoAnyhow();
        loanOfOnePenny();
        nineAtMost();
        theLeastToWhom();
        loanByKind();
        loanCountsTimes();
        forgaveRefusals();
        itDriftsAnyhow();
        forgaveIsOfTheLoad();
        theFewestAndTheLeast();
        forgaveAll();
        forgaveByKind();
        CHECKS.close();
    }

    private static void row(String s, DebtFerry x, int... due) {
        CHECKS.answers(s, due.length == 0 ? NONE : due.length, x, "cross", -1);
        for (int k = 0; k <= 4; k++) {
            CHECKS.answers(s, k < due.length ? due[k] : NONE, x, "cross", k);
        }
    }

    private static void crossRefusals() {
        DebtFerry none = new DebtFerry();
        DebtFerry x = Checks.on(RISING);
        for (int k : new int[] {LEAST, -2, 5, MOST}) {
            CHECKS.answers("12 OUTSIDE: k", OUTSIDE, x, "cross", k);
            CHECKS.answers("12 STATE ahead of OUTSIDE", STATE, none, "cross", k);
        }
        for (int k = -1; k <= 4; k++) {
            CHECKS.answers("12 STATE: there is no RIVER", STATE, none, "cross", k);
        }
        DebtFerry two = Checks.on("o112,r000,r000");
        CHECKS.answers("12 OUTSIDE: k, also where there are none", OUTSIDE, two, "cross", 5);
        CHECKS.answers("12 NONE: there are none", NONE, two, "cross", 4);
    }

    private static void crossByRoom() {
        DebtFerry x = Checks.on(RISING);
        row("ROOM 1: each alone", x, 1, 2, 4, 8);
        x.build(2);
        row("ROOM 2: two and two, the first as a row of sets", x, 3, 12);
        x.build(3);
        row("ROOM 3: one and three, the first as a row of sets", x, 1, 14);
    }

    private static void fewestAheadOfFirst() {
        DebtFerry x = Checks.on("o212,r002,r010");
        row("the fewest, though 1, 2 is less as a row of sets", x, 3);
        x.build(1);
        row("the fewest for which there is ROOM", x, 1, 2);
    }

    private static void fiveLoads() {
        DebtFerry x = Checks.on("o115,r001000,r010000,r010000,r010000,r010000");
        row("as many LOADS as there may be", x, 1, 2, 4, 8, 16);
        x.build(3);
        row("all QUARREL, so each goes alone", x, 1, 2, 4, 8, 16);
    }

    private static void noLameOnePulls() {
        DebtFerry x = Checks.on("o114,r10001,r02000,r03000,r04000");
        row("a LAME one alone", x);
        x.build(2);
        row("a LAME one with another who pulls", x, 3, 12);
        x.build(3);
        row("a LAME one with two others", x, 2, 13);
        DebtFerry last = Checks.on("o314,r00001,r02000,r03000,r14000");
        row("a LAME one who owes most", last);
    }

    private static void thereAreNone() {
        row("all DRIFT", Checks.on("o312,r000,r000"));
        row("one DRIFTS alone, and there is no ROOM for two", Checks.on("o112,r001,r000"));
        row("all but one can cross", Checks.on("o115,r000001,r010000,r010000,r010000,r000000"));
        row("two QUARREL, and one of them is LAME", Checks.on("o212,r101,r010"));
    }

    private static void crossFollowsChanges() {
        DebtFerry x = Checks.on("o212,r000,r000");
        row("nothing is owed", x);
        x.lend(1, 0, 1);
        row("one owes 1", x, 3);
        x.lend(0, 1, 1);
        row("both owe 1", x, 1, 2);
        x.count(3);
        row("counted more", x, 1, 2);
    }

    private static void loan(String s, DebtFerry x, int p, int set, int pence, int whom) {
        CHECKS.answers("PENCE, " + s, pence, x, "loan", p, set, 0);
        CHECKS.answers("to whom, " + s, whom, x, "loan", p, set, 1);
    }

    private static void loanRefusals() {
        DebtFerry x = Checks.on(RISING);
        for (int p : new int[] {LEAST, -1, 4, 31, 32, MOST}) {
            CHECKS.answers("13 UNKNOWN", UNKNOWN, x, "loan", p, 15, 0);
            CHECKS.answers("13 UNKNOWN ahead of OUTSIDE", UNKNOWN, x, "loan", p, 16, 2);
        }
        for (int set : new int[] {LEAST, LEAST + 1, -1, 16, 17, MOST}) {
            CHECKS.answers("13 OUTSIDE: set", OUTSIDE, x, "loan", 0, set, 0);
        }
        for (int what : new int[] {LEAST, -1, 2, MOST}) {
            CHECKS.answers("13 OUTSIDE: what", OUTSIDE, x, "loan", 0, 1, what);
            CHECKS.answers("13 OUTSIDE: what, ahead of STATE", OUTSIDE, x, "loan", 0, 2, what);
        }
        for (int p = 0; p < 4; p++) {
            CHECKS.answers("13 STATE: one is not of it", STATE, x, "loan", p, 15 - (1 << p), 0);
            CHECKS.answers("13 STATE: one is not of it, which is empty", STATE, x, "loan", p, 0, 1);
            CHECKS.answers("13 OUTSIDE: set, ahead of STATE", OUTSIDE, x, "loan", p, 31 - (1 << p), 1);
        }
        CHECKS.answers("13 UNKNOWN, no RIVER", UNKNOWN, new DebtFerry(), "loan", 0, 1, 0);
    }

    private static void theyDoAnyhow() {
        DebtFerry x = Checks.on("o112,r101,r000");
        loan("0 PENCE, NONE, if they do anyhow", x, 0, 1, 0, NONE);
        loan("0 PENCE, NONE, if they do anyhow", x, 0, 3, 0, NONE);
        loan("with 9 owed", Checks.on("o112,r009,r000"), 0, 3, 0, NONE);
    }

    private static void loanOfOnePenny() {
        loan("it drifts", Checks.on("o112,r000,r000"), 0, 1, 1, 1);
        loan("it drifts", Checks.on("o112,r000,r000"), 1, 3, 1, 0);
        DebtFerry quarrel = Checks.on("o112,r001,r010");
        loan("they alone pull, not one of two", quarrel, 0, 3, 1, 1);
        loan("they alone pull, not one of two", quarrel, 1, 3, 1, 0);
        CHECKS.answers("NOTES stay", 1, quarrel, "owes", 0, 1);
        CHECKS.answers("NOTES stay", 1, quarrel, "owes", 1, 0);
    }

    private static void nineAtMost() {
        loan("9 at most: from 0 to 9", Checks.on("o112,r000,r080"), 0, 3, 9, 1);
        loan("9 at most: 10 were wanted", Checks.on("o112,r000,r090"), 0, 3, NONE, NONE);
        loan("9 at most: from 1 to 9", Checks.on("o112,r001,r080"), 0, 3, 8, 1);
        loan("9 at most: from 8 to 9", Checks.on("o112,r008,r080"), 0, 3, 1, 1);
        loan("9 at most: 9 is not raised", Checks.on("o112,r009,r090"), 0, 3, NONE, NONE);
        loan("9 at most: by none of four", Checks.on("o115,r009999,r000000,r000000,r000000,r000000"), 4, 31, NONE, NONE);
        loan("9 at most: another NOTE is", Checks.on("o113,r0090,r0900,r0000"), 0, 3, 1, 2);
        loan("9 at most: the least can't", Checks.on("o113,r0085,r0906,r0000"), 0, 7, 3, 2);
    }

    private static void theLeastToWhom() {
        DebtFerry x = Checks.on("o115,r000000,r000000,r000000,r000000,r000000");
        for (int p = 0; p < 5; p++) {
            loan("of several the least, not oneself", x, p, 31, 1, p == 0 ? 1 : 0);
            loan("of several the least, of those ashore too", x, p, 1 << p, 1, p == 0 ? 1 : 0);
        }
    }

    private static void loanByKind() {
        loan("a FRIEND's is 1 less", Checks.on("o112,f000,r000"), 0, 1, 2, 1);
        loan("a BANKER's is half", Checks.on("o112,b000,r000"), 0, 1, 2, 1);
        loan("a BANKER's of 1 and 1", Checks.on("o112,b001,r000"), 0, 1, 1, 1);
        loan("a BANKER's half, cut", Checks.on("o112,b000,r030"), 0, 3, 8, 1);
        loan("a BANKER's, by none", Checks.on("o112,b000,r040"), 0, 3, NONE, NONE);
    }

    private static void loanCountsTimes() {
        DebtFerry x = Checks.on("o133,r0000,r0008,r0000");
        loan("to one aboard, who counts thrice", x, 0, 3, 3, 1);
        loan("to either aboard", x, 0, 7, 9, 1);
        DebtFerry y = Checks.on("o133,r0080,r0000,r0000");
        loan("a penny is enough, so to the least, though ashore", y, 1, 6, 1, 0);
        loan("fewer PENCE go ahead of the least", Checks.on("o133,r0000,r0000,r0050"), 0, 5, 2, 2);
    }

    private static void forgaveRefusals() {
        DebtFerry none = new DebtFerry();
        DebtFerry x = Checks.on(RISING);
        for (int set : new int[] {LEAST, LEAST + 1, -1, 16, 17, MOST}) {
            CHECKS.answers("14 OUTSIDE: set", OUTSIDE, x, "forgave", set);
            CHECKS.answers("14 STATE ahead of OUTSIDE", STATE, none, "forgave", set);
        }
        CHECKS.answers("14 STATE: there is no RIVER", STATE, none, "forgave", 0);
    }

    private static void itDriftsAnyhow() {
        DebtFerry x = Checks.on(RISING);
        CHECKS.answers("the fewest PEOPLE of an empty LOAD", 0, x, "forgave", 0);
        CHECKS.answers("nobody, if nothing is owed", 0, Checks.on("o112,r000,r090"), "forgave", 1);
        CHECKS.answers("nobody, if all DEBT is 0", 0, Checks.on("o112,f001,b010"), "forgave", 3);
    }

    private static void forgaveIsOfTheLoad() {
        DebtFerry x = Checks.on("o112,r001,r000");
        CHECKS.answers("PEOPLE of it: one is ashore", NONE, x, "forgave", 1);
        CHECKS.answers("PEOPLE of it: one is aboard", 2, x, "forgave", 3);
        CHECKS.answers("PEOPLE of it: one owes nothing", 0, x, "forgave", 2);
        CHECKS.answers("one owes to the LOAD and ashore", NONE, Checks.on("o113,r0011,r0000,r0000"), "forgave", 3);
    }

    private static void theFewestAndTheLeast() {
        CHECKS.answers("of several the least", 2, Checks.on("o113,b0011,r0000,r0000"), "forgave", 7);
        CHECKS.answers("the fewest, though 3 is less than 4", 4,
            Checks.on("o115,r000000,r000000,r000000,b010100,f001100"), "forgave", 31);
        CHECKS.answers("two, as one is not enough", 6, Checks.on("o113,r0011,r0000,r0000"), "forgave", 7);
    }

    private static void forgaveAll() {
        CHECKS.answers("all of it, two", 3, Checks.on("o112,r009,r090"), "forgave", 3);
        CHECKS.answers("all of it, five", 31, Checks.on("o335,r009999,f090999,b099099,r099909,f099990"), "forgave", 31);
        CHECKS.answers("all of it is not enough", NONE, Checks.on("o335,r009999,f090999,b099099,r099909,f099990"), "forgave", 15);
    }

    private static void forgaveByKind() {
        DebtFerry x = Checks.on("o113,f0011,r0000,r0000");
        CHECKS.answers("a FRIEND may owe 1 ashore", 2, x, "forgave", 3);
        CHECKS.answers("a FRIEND who owes 2 ashore", NONE, x, "forgave", 1);
        x.lend(0, 2, 2);
        CHECKS.answers("a FRIEND who owes 2 ashore", NONE, x, "forgave", 3);
        CHECKS.answers("forgiving changes no NOTE", 2, x, "owes", 0, 2);
    }
}
