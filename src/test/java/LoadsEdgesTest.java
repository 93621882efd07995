/** The boundary cases of promises 8 to 11, each under the sentence that names it. */
public final class LoadsEdgesTest {
    private static final Checks CHECKS = new Checks("LoadsEdgesTest");
    private static final int LEAST = Integer.MIN_VALUE, MOST = Integer.MAX_VALUE;
    private static final int UNKNOWN = -1, OUTSIDE = -2, STATE = -3, NONE = -9, NULL = -11, CAST = -12, INDEX = -13;
    private static final String[] NOTHING_OWED = {
        "o112,r000,r000", "o113,r0000,r0000,r0000", "o114,r00000,r00000,r00000,r00000",
        "o115,r000000,r000000,r000000,r000000,r000000"
    };
    /** ROOM 2, TIMES 1: each RIDER owes 1 to one who is never aboard with them in these tests. */
    private static final String EACH_ONE = "o215,r000001,r000001,r000001,r000001,r010000";

    public static void main(String[] args) {
        friendIsNoughtAtLeast();
        bankerIsHalfAndCut();
        timesOnlyAboard();
        theMostThatIsOwed();
        debtRefusals();
        setsOfPeopleThatThereAre();
        pullersAreAboveNought();
        quarrelOfUnlikeKinds();
        pullersAndFairRefusals();
        fairIsNotEmpty();
        fairHasRoom();
        fairHasJustOnePuller();
        fairPullerIsNotLame();
        firstWrongIsEmpty();
        firstWrongHasNoRoom();
        firstWrongHasCrossed();
        firstOfSeveralWrong();
        noLoadsAtAll();
        noSuchPerson();
        loadsCounts();
        loadsRefusals();
        twentyLoads();
        loadsFaultsInOrder();
        loadsIndex();
        loadsState();
        cellsThatAreNoSets();
        CHECKS.close();
    }

    /** PERSON 0 of a kind, alone, with one NOTE of v. */
    private static int alone(char letter, int v) {
        return Checks.on("o132," + letter + "00" + v + ",r000").debt(0, 1);
    }

    private static void friendIsNoughtAtLeast() {
        int[] due = {0, 0, 1, 2, 3, 4, 5, 6, 7, 8};
        for (int v = 0; v <= 9; v++) {
            CHECKS.due("of a FRIEND 1 less (0 at least): " + v, due[v], alone('f', v));
            CHECKS.due("of a RIDER all NOTES together: " + v, v, alone('r', v));
        }
    }

    private static void bankerIsHalfAndCut() {
        int[] due = {0, 0, 1, 1, 2, 2, 3, 3, 4, 4};
        for (int v = 0; v <= 9; v++) {
            CHECKS.due("of a BANKER half of what a RIDER's is, cut: " + v, due[v], alone('b', v));
        }
        DebtFerry x = Checks.on("o133,b0011,r0000,r0000");
        CHECKS.answers("halved once, behind TIMES: 3 and 1", 2, x, "debt", 0, 3);
        CHECKS.answers("halved once, behind TIMES: 1 and 1", 1, x, "debt", 0, 1);
        CHECKS.answers("halved once, behind TIMES: 3 and 3", 3, x, "debt", 0, 7);
    }

    private static void timesOnlyAboard() {
        for (int times = 1; times <= 3; times++) {
            DebtFerry x = Checks.on("o1" + times + "3,r0054,r0000,r0000");
            CHECKS.answers("nobody of them aboard, TIMES " + times, 9, x, "debt", 0, 1);
            CHECKS.answers("those to PEOPLE of the LOAD TIMES as much", 5 * times + 4, x, "debt", 0, 3);
            CHECKS.answers("those to PEOPLE of the LOAD TIMES as much", 5 + 4 * times, x, "debt", 0, 5);
            CHECKS.answers("those to PEOPLE of the LOAD TIMES as much", 9 * times, x, "debt", 0, 7);
        }
    }

    private static void theMostThatIsOwed() {
        DebtFerry x = Checks.on("o335,r009999,f090999,b099099,r099909,f099990");
        CHECKS.answers("the most of a RIDER", 108, x, "debt", 0, 31);
        CHECKS.answers("the most of a FRIEND", 107, x, "debt", 1, 31);
        CHECKS.answers("the most of a BANKER", 54, x, "debt", 2, 31);
        CHECKS.answers("all aboard, two quarrel", 9, x, "pullers", 31);
    }

    private static void debtRefusals() {
        DebtFerry x = Checks.on(NOTHING_OWED[3]);
        for (int p : new int[] {LEAST, -1, 5, 31, 32, MOST}) {
            CHECKS.answers("8 UNKNOWN", UNKNOWN, x, "debt", p, 31);
            CHECKS.answers("8 UNKNOWN ahead of OUTSIDE", UNKNOWN, x, "debt", p, 32);
            CHECKS.answers("8 UNKNOWN ahead of STATE", UNKNOWN, x, "debt", p, 0);
        }
        for (int p = 0; p < 5; p++) {
            CHECKS.answers("8 STATE: one is not of it, which is empty", STATE, x, "debt", p, 0);
            CHECKS.answers("8 STATE: one is not of it", STATE, x, "debt", p, 31 - (1 << p));
            CHECKS.answers("8 of all", 0, x, "debt", p, 31);
            CHECKS.answers("8 OUTSIDE ahead of STATE", OUTSIDE, x, "debt", p, 63 - (1 << p));
        }
        for (int set : new int[] {LEAST, LEAST + 1, -1, 32, 33, 63, MOST}) {
            CHECKS.answers("8 OUTSIDE: set", OUTSIDE, x, "debt", 0, set);
        }
    }

    private static void setsOfPeopleThatThereAre() {
        String s = "set (of PEOPLE that there are)";
        for (int people = 2; people <= 5; people++) {
            DebtFerry x = Checks.on(NOTHING_OWED[people - 2]);
            int all = (1 << people) - 1;
            CHECKS.answers(s, 0, x, "debt", people - 1, all);
            CHECKS.answers(s, OUTSIDE, x, "debt", people - 1, all + 1);
            CHECKS.answers(s, OUTSIDE, x, "debt", 0, all + 2);
            for (String name : new String[] {"pullers", "fair", "forgave"}) {
                CHECKS.answers(s, 0, x, name, all);
                CHECKS.answers(s, OUTSIDE, x, name, all + 1);
            }
            CHECKS.answers(s, 1, x, "loan", 0, all, 0);
            CHECKS.answers(s, OUTSIDE, x, "loan", 0, all + 2, 0);
            CHECKS.answers(s, 0, x, "odds", 0, all, 0);
            CHECKS.answers(s, DebtFerry.LOST, x, "odds", 0, all + 2, 0);
            CHECKS.answers(s, 0, x, "reading", all, all);
            CHECKS.answers(s, OUTSIDE, x, "reading", all + 1, 0);
        }
    }

    private static void pullersAreAboveNought() {
        String s = "whose DEBT is the most, and above 0";
        CHECKS.answers(s, 0, Checks.on("o112,f001,r000"), "pullers", 1);
        CHECKS.answers(s, 1, Checks.on("o112,f002,r000"), "pullers", 1);
        CHECKS.answers(s, 0, Checks.on("o112,b001,r000"), "pullers", 3);
        CHECKS.answers(s, 1, Checks.on("o122,b001,r000"), "pullers", 3);
        CHECKS.answers(s, 1, Checks.on("o112,r001,r000"), "pullers", 1);
        CHECKS.answers("nobody pulls an empty LOAD", 0, Checks.on("o112,r009,r090"), "pullers", 0);
        CHECKS.answers("those of it alone", 2, Checks.on("o112,r009,r010"), "pullers", 2);
    }

    private static void quarrelOfUnlikeKinds() {
        DebtFerry x = Checks.on("o313,r0040,f0500,b0900");
        CHECKS.answers("a RIDER's 4, a FRIEND's of 5, a BANKER's of 9", 7, x, "pullers", 7);
        x.lend(0, 1, 5);
        CHECKS.answers("one owes 1 more", 1, x, "pullers", 7);
        x.lend(0, 1, 3);
        CHECKS.answers("one owes 1 less", 6, x, "pullers", 7);
    }

    private static void pullersAndFairRefusals() {
        DebtFerry none = new DebtFerry();
        DebtFerry x = Checks.on(NOTHING_OWED[3]);
        for (int set : new int[] {LEAST, LEAST + 1, -1, 32, 33, 63, MOST}) {
            CHECKS.answers("9 STATE ahead of OUTSIDE", STATE, none, "pullers", set);
            CHECKS.answers("10 STATE ahead of OUTSIDE", STATE, none, "fair", set);
            CHECKS.answers("9 OUTSIDE: set", OUTSIDE, x, "pullers", set);
            CHECKS.answers("10 OUTSIDE: set", OUTSIDE, x, "fair", set);
        }
        CHECKS.answers("9 STATE: there is no RIVER", STATE, none, "pullers", 0);
        CHECKS.answers("10 STATE: there is no RIVER", STATE, none, "fair", 1);
    }

    private static void fairIsNotEmpty() {
        CHECKS.answers("FAIR is a LOAD that is not empty", 0, Checks.on("o312,r009,r000"), "fair", 0);
        CHECKS.answers("of just one", 1, Checks.on("o112,r009,r000"), "fair", 1);
    }

    private static void fairHasRoom() {
        String s = "of no more PEOPLE than there is ROOM";
        DebtFerry x = Checks.on("o115,r000009,r000000,r000000,r000000,r000000");
        for (int room = 1; room <= 3; room++) {
            x.build(room);
            CHECKS.answers(s + " " + room, 1, x, "fair", 1);
            CHECKS.answers(s + " " + room, room >= 2 ? 1 : 0, x, "fair", 3);
            CHECKS.answers(s + " " + room, room >= 2 ? 1 : 0, x, "fair", 17);
            CHECKS.answers(s + " " + room, room >= 3 ? 1 : 0, x, "fair", 7);
            CHECKS.answers(s + " " + room, 0, x, "fair", 15);
            CHECKS.answers(s + " " + room, 0, x, "fair", 31);
        }
    }

    private static void fairHasJustOnePuller() {
        DebtFerry x = Checks.on("o212,r001,r010");
        CHECKS.answers("a QUARREL is not FAIR", 0, x, "fair", 3);
        x.lend(0, 1, 2);
        CHECKS.answers("with just one PULLER", 1, x, "fair", 3);
        x.lend(0, 1, 0);
        x.lend(1, 0, 0);
        CHECKS.answers("one that DRIFTS is not FAIR", 0, x, "fair", 3);
    }

    private static void fairPullerIsNotLame() {
        DebtFerry x = Checks.on("o212,r102,r010");
        CHECKS.answers("a LAME one pulls", 0, x, "fair", 3);
        CHECKS.answers("a LAME one pulls alone", 0, x, "fair", 1);
        x.lend(0, 1, 0);
        CHECKS.answers("a LAME one is aboard, but does not pull", 1, x, "fair", 3);
        x.lend(0, 1, 1);
        CHECKS.answers("a LAME one quarrels", 0, x, "fair", 3);
    }

    /** The FIRST WRONG at a place: what 1 tells it, all others -100 less it. */
    private static void wrong(String s, DebtFerry x, int n, int place) {
        for (int what : new int[] {0, 1, 2, 3, 4, 10, 11, 12, 13, 14}) {
            CHECKS.answers(s, what == 1 ? place : -100 - place, x, "loads", 1, 2, 0, n, what);
            CHECKS.answers(s, 0, x, "fault");
        }
    }

    private static void firstWrongIsEmpty() {
        String s = "FIRST WRONG: the first that is empty";
        DebtFerry x = Checks.on(EACH_ONE);
        Checks.row(x, 1, 2, 0);
        wrong(s, x, 1, 0);
        Checks.row(x, 1, 2, 1, 2, 0, 4);
        wrong(s, x, 4, 2);
        wrong(s, x, 3, 2);
        CHECKS.answers("ahead of it there is none", NONE, x, "loads", 1, 2, 0, 2, 1);
    }

    private static void firstWrongHasNoRoom() {
        String s = "FIRST WRONG: of more PEOPLE than there is ROOM";
        for (int room = 1; room <= 3; room++) {
            DebtFerry x = Checks.on(EACH_ONE);
            x.build(room);
            int full = (1 << room) - 1;
            Checks.row(x, 1, 2, full);
            CHECKS.answers(s, NONE, x, "loads", 1, 2, 0, 1, 1);
            Checks.row(x, 1, 2, 16, 2 * full + 1);
            wrong(s + " " + room, x, 2, 1);
            Checks.row(x, 1, 2, 31);
            CHECKS.answers(s, 0, x, "loads", 1, 2, 0, 1, 1);
        }
    }

    private static void firstWrongHasCrossed() {
        String s = "FIRST WRONG: of one who has crossed";
        DebtFerry x = Checks.on(EACH_ONE);
        Checks.row(x, 1, 2, 3, 3);
        wrong(s, x, 2, 1);
        Checks.row(x, 1, 2, 1, 12, 18, 20);
        wrong(s, x, 4, 3);
        x = Checks.on(EACH_ONE);
        Checks.row(x, 1, 2, 1, 2, 4, 24, 1);
        wrong("FIRST WRONG: of one who has crossed long ago", x, 5, 4);
        Checks.row(x, 1, 2, 1, 2, 4, 8, 16, 16);
        CHECKS.answers("all have crossed", 31, x, "loads", 1, 2, 0, 5, 2);
        CHECKS.answers("all have crossed, one more", -105, x, "loads", 1, 2, 0, 6, 2);
        CHECKS.answers("all have crossed, one more", 5, x, "loads", 1, 2, 0, 6, 1);
    }

    private static void firstOfSeveralWrong() {
        DebtFerry x = Checks.on(EACH_ONE);
        Checks.row(x, 1, 2, 1, 7, 0, 1);
        CHECKS.answers("the first of several", -101, x, "loads", 1, 2, 0, 4, 0);
        CHECKS.answers("from i on, it is told from 0 on", 0, x, "loads", 1, 2, 1, 3, 1);
        CHECKS.answers("from i on, it is told from 0 on", 0, x, "loads", 1, 2, 2, 2, 1);
        CHECKS.answers("who crossed ahead of i has not crossed", NONE, x, "loads", 1, 2, 3, 1, 1);
    }

    private static void noLoadsAtAll() {
        DebtFerry x = Checks.on(EACH_ONE);
        x.sheet(1, 2, 0);
        for (int what : new int[] {0, 2, 3, 4, 10, 14}) {
            CHECKS.answers("no LOADS", 0, x, "loads", 1, 2, 0, 0, what);
        }
        CHECKS.answers("FIRST WRONG (1; NONE)", NONE, x, "loads", 1, 2, 0, 0, 1);
    }

    private static void noSuchPerson() {
        String s = "10 and p; NONE: there is no such PERSON";
        for (int people = 2; people <= 5; people++) {
            DebtFerry x = Checks.on(NOTHING_OWED[people - 2]);
            Checks.row(x, 1, 2, 1);
            for (int p = 0; p < 5; p++) {
                CHECKS.answers(s, p < people ? 0 : NONE, x, "loads", 1, 2, 0, 1, 10 + p);
                CHECKS.answers(s, p < people ? 0 : NONE, x, "loads", 1, 2, 0, 0, 10 + p);
            }
        }
    }

    private static void loadsCounts() {
        DebtFerry x = Checks.on(EACH_ONE);
        Checks.row(x, 1, 2, 1, 2, 4, 8, 16);
        int[][] each = {{0, 5}, {1, NONE}, {2, 31}, {3, 0}, {4, 0}, {10, 1}, {14, 1}};
        for (int[] e : each) {
            CHECKS.answers("five LOADS, each FAIR", e[1], x, "loads", 1, 2, 0, 5, e[0]);
        }
        Checks.row(x, 1, 2, 3, 12, 16);
        int[][] quarrels = {{0, 1}, {2, 31}, {3, 2}, {4, 0}, {10, 1}, {11, 1}, {12, 1}, {13, 1}, {14, 1}};
        for (int[] q : quarrels) {
            CHECKS.answers("two QUARRELS", q[1], x, "loads", 1, 2, 0, 3, q[0]);
        }
        DebtFerry y = Checks.on(NOTHING_OWED[3]);
        Checks.row(y, 1, 2, 1, 2, 4, 8, 16);
        int[][] drift = {{0, 0}, {2, 31}, {3, 0}, {4, 5}, {10, 0}, {14, 0}};
        for (int[] d : drift) {
            CHECKS.answers("five that DRIFT", d[1], y, "loads", 1, 2, 0, 5, d[0]);
        }
        DebtFerry lame = Checks.on("o112,r101,r010");
        Checks.row(lame, 1, 2, 1, 2);
        CHECKS.answers("one pulled by a LAME one is not FAIR", 1, lame, "loads", 1, 2, 0, 2, 0);
        CHECKS.answers("a LAME one is one of the PULLERS", 1, lame, "loads", 1, 2, 0, 2, 10);
        CHECKS.answers("it neither DRIFTS", 0, lame, "loads", 1, 2, 0, 2, 4);
        CHECKS.answers("nor is there a QUARREL", 0, lame, "loads", 1, 2, 0, 2, 3);
    }

    private static void loadsRefusals() {
        DebtFerry x = Checks.on(EACH_ONE);
        Checks.row(x, 1, 2, 1, 2);
        for (int k : new int[] {LEAST, -1, 4, MOST}) {
            x.put(0, -1, 0);
            CHECKS.answers("11 UNKNOWN ahead of OUTSIDE", UNKNOWN, x, "loads", k, 3, -1, 21, 5);
            CHECKS.answers("11 fault() of one refused", 0, x, "fault");
        }
        for (int lane : new int[] {LEAST, -1, 3, MOST}) {
            CHECKS.answers("11 OUTSIDE: lane", OUTSIDE, x, "loads", 1, lane, 0, 2, 0);
            CHECKS.answers("11 OUTSIDE: lane, ahead of NULL", OUTSIDE, x, "loads", 2, lane, 0, 2, 0);
        }
        for (int n : new int[] {LEAST, -1, 21, MOST}) {
            CHECKS.answers("11 OUTSIDE: n (0 .. 20)", OUTSIDE, x, "loads", 1, 2, 0, n, 0);
            CHECKS.answers("11 OUTSIDE: n, ahead of CAST", OUTSIDE, x, "loads", 1, 0, 0, n, 0);
            CHECKS.answers("11 OUTSIDE: n, ahead of NULL", OUTSIDE, x, "loads", 2, 0, -1, n, 0);
        }
        for (int what : new int[] {LEAST, -1, 5, 6, 9, 15, MOST}) {
            CHECKS.answers("11 OUTSIDE: what (0 .. 4, 10 .. 14)", OUTSIDE, x, "loads", 1, 2, 0, 2, what);
            CHECKS.answers("11 OUTSIDE: what, ahead of INDEX", OUTSIDE, x, "loads", 1, 2, -1, 2, what);
            CHECKS.answers("11 fault() of one refused", 0, x, "fault");
        }
        CHECKS.answers("11 OUTSIDE ahead of STATE", OUTSIDE, new DebtFerry(), "loads", 0, 3, 0, 0, 0);
    }

    private static void twentyLoads() {
        String s = "n (0 .. 20)";
        DebtFerry x = Checks.on(EACH_ONE);
        x.sheet(1, 0, 60);
        for (int k = 0; k < 5; k++) {
            x.put(1, 40 + k, 1 << k);
        }
        CHECKS.answers(s, -105, x, "loads", 1, 0, 40, 20, 0);
        CHECKS.answers(s, 5, x, "loads", 1, 0, 40, 20, 1);
        CHECKS.answers(s, INDEX, x, "loads", 1, 0, 41, 20, 0);
        CHECKS.answers(s, OUTSIDE, x, "loads", 1, 0, 39, 21, 0);
        CHECKS.answers(s, 5, x, "loads", 1, 0, 40, 5, 0);
        x.put(1, 59, 32);
        CHECKS.answers("the last of twenty is no set", OUTSIDE, x, "loads", 1, 0, 40, 20, 0);
        CHECKS.answers("nineteen of them", -105, x, "loads", 1, 0, 40, 19, 0);
    }

    private static void loadsFaultsInOrder() {
        DebtFerry x = Checks.on(EACH_ONE);
        Checks.row(x, 1, 1, 99, 1);
        for (int lane : new int[] {0, 2}) {
            CHECKS.answers("11 CAST ahead of INDEX", CAST, x, "loads", 1, lane, 3, 2, 0);
            CHECKS.answers("11 CAST ahead of a cell", CAST, x, "loads", 1, lane, 0, 1, 0);
            CHECKS.answers("11 fault() tells it", 2, x, "fault");
        }
        for (int lane = 0; lane <= 2; lane++) {
            CHECKS.answers("11 nothing is no CAST, but NULL", NULL, x, "loads", 2, lane, 3, 2, 0);
            CHECKS.answers("11 fault() tells it", 1, x, "fault");
        }
        CHECKS.answers("11 INDEX ahead of a cell", INDEX, x, "loads", 1, 1, 0, 3, 0);
        CHECKS.answers("11 fault() tells it", 3, x, "fault");
        CHECKS.answers("11 a cell is no set", OUTSIDE, x, "loads", 1, 1, 0, 2, 0);
        CHECKS.answers("11 fault() of one refused", 0, x, "fault");
    }

    private static void loadsIndex() {
        DebtFerry x = Checks.on(EACH_ONE);
        Checks.row(x, 1, 2, 1, 2, 4);
        int[][] beyond = {{0, 4}, {1, 3}, {2, 2}, {3, 1}, {-1, 1}, {-1, 4}, {LEAST, 20}, {MOST, 1}, {MOST, 20}, {MOST - 1, 2}};
        for (int[] b : beyond) {
            CHECKS.answers("11 INDEX", INDEX, x, "loads", 1, 2, b[0], b[1], 0);
            CHECKS.answers("11 INDEX", 3, x, "fault");
        }
        String none = "INDEX also where i is not 0 .. how many there are, if none of them is taken";
        for (int i : new int[] {LEAST, -1, 4, 60, MOST}) {
            CHECKS.answers(none, INDEX, x, "loads", 1, 2, i, 0, 0);
        }
        for (int i = 0; i <= 3; i++) {
            CHECKS.answers(none, 0, x, "loads", 1, 2, i, 0, 0);
            CHECKS.answers(none, 0, x, "fault");
        }
    }

    private static void loadsState() {
        DebtFerry x = new DebtFerry();
        Checks.row(x, 1, 2, -1, 0);
        CHECKS.answers("11 NULL ahead of STATE", NULL, x, "loads", 0, 2, 0, 0, 0);
        CHECKS.answers("11 CAST ahead of STATE", CAST, x, "loads", 1, 1, 0, 0, 0);
        CHECKS.answers("11 INDEX ahead of STATE", INDEX, x, "loads", 1, 2, 0, 3, 0);
        CHECKS.answers("11 STATE ahead of a cell", STATE, x, "loads", 1, 2, 0, 2, 0);
        CHECKS.answers("11 fault() of STATE", 0, x, "fault");
        CHECKS.answers("11 STATE, what 1", STATE, x, "loads", 1, 2, 0, 0, 1);
        CHECKS.answers("11 STATE ahead of NONE", STATE, x, "loads", 1, 2, 0, 0, 14);
    }

    private static void cellsThatAreNoSets() {
        String s = "OUTSIDE: a cell is no set of PEOPLE that there are";
        for (int people = 2; people <= 5; people++) {
            DebtFerry x = Checks.on(NOTHING_OWED[people - 2]);
            for (int cell : new int[] {LEAST, -1, 1 << people, (1 << people) + 1, MOST}) {
                Checks.row(x, 1, 2, 1, cell);
                CHECKS.answers(s, OUTSIDE, x, "loads", 1, 2, 0, 2, 2);
                CHECKS.answers(s, OUTSIDE, x, "loads", 1, 2, 1, 1, 1);
                CHECKS.answers("a cell behind is not taken", 1, x, "loads", 1, 2, 0, 1, 2);
            }
            Checks.row(x, 1, 2, 1 << people - 1);
            CHECKS.answers(s, 1 << people - 1, x, "loads", 1, 2, 0, 1, 2);
        }
        DebtFerry x = Checks.on(EACH_ONE);
        Checks.row(x, 1, 2, 0, 32);
        CHECKS.answers("OUTSIDE also behind a FIRST WRONG", OUTSIDE, x, "loads", 1, 2, 0, 2, 1);
        CHECKS.answers("OUTSIDE ahead of NONE", OUTSIDE, Checks.on(NOTHING_OWED[0]), "loads", 0, 0, 0, 1, 14);
        Checks.row(x, 1, 0, 256 + 3, 255);
        CHECKS.answers("what was cut to its LANE is a set", 3, x, "loads", 1, 0, 0, 1, 2);
        CHECKS.answers("what was cut to its LANE is below 0", OUTSIDE, x, "loads", 1, 0, 1, 1, 2);
    }
}
