/** The boundary cases of promises 15 to 20, each under the sentence that names it. */
public final class PulledEdgesTest {
    private static final Checks CHECKS = new Checks("PulledEdgesTest");
    private static final int LEAST = Integer.MIN_VALUE, MOST = Integer.MAX_VALUE;
    private static final int UNKNOWN = -1, OUTSIDE = -2, STATE = -3, FULL = -4;
    private static final String FIVE = "o235,r002100,f030001,b150020,r000003,f000100";

    public static void main(String[] args) {
        eightReadingsAtMost();
        readingRefusals();
        pulledIsAPartOfIt();
        backEdges();
        backTakesTheLast();
        notesRefusals();
        notesAtTheirEnds();
        kindsRefusals();
        kindsOneByOne();
        oftenState();
        oftenOneByOne();
        whatCannotBe();
        emptyLoads();
        allReadingsAreSo();
        oddsRefusals();
        oddsOfNought();
        oddsInLeastTerms();
        CHECKS.close();
    }

    private static void eightReadingsAtMost() {
        String s = "READINGS, 8 at most, numbered by how many there are";
        DebtFerry x = Checks.on(FIVE);
        for (int k = 0; k < 8; k++) {
            CHECKS.answers(s, k, x, "many", 3);
            CHECKS.answers(s, k, x, "reading", 0, 0);
        }
        CHECKS.answers(s, FULL, x, "reading", 31, 0);
        CHECKS.answers(s, FULL, x, "reading", 0, 0);
        CHECKS.answers("FULL changes nothing", 8, x, "many", 3);
        CHECKS.answers("FULL changes nothing", 1023, x, "notes", 0, 1);
        CHECKS.answers(s, 7, x, "back", 1);
        CHECKS.answers(s, 7, x, "reading", 1, 1);
        CHECKS.answers(s, FULL, x, "reading", 1, 1);
        CHECKS.answers(s, 0, x, "back", 8);
        CHECKS.answers(s, 0, x, "reading", 1, 1);
    }

    private static void readingRefusals() {
        DebtFerry none = new DebtFerry();
        DebtFerry x = Checks.on(FIVE);
        for (int set : new int[] {LEAST, LEAST + 1, -1, 32, 33, MOST}) {
            CHECKS.answers("15 OUTSIDE: set", OUTSIDE, x, "reading", set, 0);
            CHECKS.answers("15 OUTSIDE: set", OUTSIDE, x, "reading", set, set);
            CHECKS.answers("15 STATE ahead of OUTSIDE", STATE, none, "reading", set, 0);
        }
        CHECKS.answers("15 STATE: there is no RIVER", STATE, none, "reading", 0, 0);
        CHECKS.answers("15 no READINGS then", 0, none, "many", 3);
        CHECKS.answers("15 no READINGS then", 0, x, "many", 3);
        for (int k = 0; k < 8; k++) {
            x.reading(31, 31);
        }
        CHECKS.answers("15 OUTSIDE: set, ahead of FULL", OUTSIDE, x, "reading", 32, 0);
        CHECKS.answers("15 OUTSIDE: pulled, ahead of FULL", OUTSIDE, x, "reading", 1, 2);
    }

    private static void pulledIsAPartOfIt() {
        String s = "pulled (a part of it)";
        DebtFerry x = Checks.on(FIVE);
        int[][] outside = {
            {0, 1}, {0, -1}, {1, 2}, {1, 3}, {3, 4}, {3, 7}, {3, -1}, {31, 32}, {31, 63}, {31, -1}, {31, LEAST},
            {31, MOST}, {30, 1}, {30, 31}, {15, 16}
        };
        for (int[] o : outside) {
            CHECKS.answers(s, OUTSIDE, x, "reading", o[0], o[1]);
        }
        CHECKS.answers(s, 0, x, "many", 3);
        int[][] taken = {{0, 0}, {1, 0}, {1, 1}, {3, 3}, {31, 31}, {31, 0}, {30, 16}, {21, 17}};
        for (int k = 0; k < 8; k++) {
            CHECKS.answers(s, k, x, "reading", taken[k][0], taken[k][1]);
        }
    }

    private static void backEdges() {
        String s = "The last k READINGS (0 .. as many as there are)";
        DebtFerry none = new DebtFerry();
        for (int k : new int[] {LEAST, -1, 1, 8, MOST}) {
            CHECKS.answers(s + ", no RIVER", OUTSIDE, none, "back", k);
        }
        CHECKS.answers(s + ", no RIVER", 0, none, "back", 0);
        DebtFerry x = Checks.on(FIVE);
        CHECKS.answers(s, 0, x, "back", 0);
        CHECKS.answers(s, OUTSIDE, x, "back", 1);
        x.reading(1, 1);
        x.reading(2, 2);
        x.reading(4, 4);
        for (int k : new int[] {LEAST, -1, 4, 5, 8, MOST}) {
            CHECKS.answers(s, OUTSIDE, x, "back", k);
            CHECKS.answers("OUTSIDE changes nothing", 3, x, "many", 3);
        }
        CHECKS.answers(s, 3, x, "back", 0);
        CHECKS.answers(s, 2, x, "back", 1);
        CHECKS.answers(s, OUTSIDE, x, "back", 3);
        CHECKS.answers(s, 0, x, "back", 2);
        CHECKS.answers(s, OUTSIDE, x, "back", 1);
    }

    private static void backTakesTheLast() {
        String s = "The last k READINGS are taken back, not the first";
        DebtFerry x = Checks.on("o112,r005,r050");
        x.reading(1, 1);
        x.reading(2, 0);
        CHECKS.answers(s, 0, x, "notes", 0, 1);
        CHECKS.answers(s, 1, x, "notes", 1, 0);
        x.back(1);
        CHECKS.answers(s, 1022, x, "notes", 0, 1);
        CHECKS.answers(s, 1023, x, "notes", 1, 0);
    }

    private static void notesRefusals() {
        DebtFerry x = Checks.on(FIVE);
        for (int p : new int[] {LEAST, -1, 5, MOST}) {
            CHECKS.answers("17 UNKNOWN: a", UNKNOWN, x, "notes", p, 0);
            CHECKS.answers("17 UNKNOWN: b", UNKNOWN, x, "notes", 0, p);
            CHECKS.answers("17 UNKNOWN: both", UNKNOWN, x, "notes", p, p);
        }
        for (int p = 0; p < 5; p++) {
            CHECKS.answers("17 UNKNOWN: one to oneself", UNKNOWN, x, "notes", p, p);
        }
        CHECKS.answers("17 UNKNOWN, no RIVER", UNKNOWN, new DebtFerry(), "notes", 0, 1);
    }

    private static void notesAtTheirEnds() {
        DebtFerry x = Checks.on("o112,r000,r080");
        CHECKS.answers("0 .. 9, all of them without READINGS", 1023, x, "notes", 0, 1);
        x.reading(3, 1);
        CHECKS.answers("just 9", 512, x, "notes", 0, 1);
        x.lend(1, 0, 9);
        CHECKS.answers("10 were wanted", 0, x, "notes", 0, 1);
        x.back(1);
        x.lend(1, 0, 0);
        x.reading(3, 0);
        CHECKS.answers("just 0", 1, x, "notes", 0, 1);
        x.back(1);
        x.lend(1, 0, 8);
        x.reading(3, 3);
        CHECKS.answers("just 8", 256, x, "notes", 0, 1);
        x.back(1);
        x.reading(3, 2);
        CHECKS.answers("0 .. 7", 255, x, "notes", 0, 1);
        CHECKS.answers("the NOTE stays", 0, x, "owes", 0, 1);
    }

    private static void kindsRefusals() {
        DebtFerry x = Checks.on(FIVE);
        for (int p : new int[] {LEAST, -1, 5, MOST}) {
            CHECKS.answers("18 UNKNOWN", UNKNOWN, x, "kinds", p);
        }
        CHECKS.answers("18 UNKNOWN of two", UNKNOWN, Checks.on("o112,r000,r000"), "kinds", 2);
        CHECKS.answers("18 UNKNOWN, no RIVER", UNKNOWN, new DebtFerry(), "kinds", 0);
    }

    private static void kindsOneByOne() {
        // Of 5 a RIDER's is 5, a FRIEND's 4, a BANKER's 2; PERSON 1, a RIDER, owes as much.
        int[] due = {0, 0, 4, 0, 2, 1, 0};
        for (int v = 0; v <= 6; v++) {
            DebtFerry x = Checks.on("o112,b005,r0" + v + "0");
            CHECKS.answers("0 .. 2, all of them without READINGS", 7, x, "kinds", 0);
            x.reading(3, 3);
            CHECKS.answers("two quarrelled, PERSON 1 owes " + v, due[v], x, "kinds", 0);
            CHECKS.answers("the kind stays", 2, x, "ofPerson", 0, 0);
        }
        DebtFerry y = Checks.on("o112,r001,r000");
        y.reading(1, 0);
        CHECKS.answers("of 1, none but a RIDER's is above 0", 6, y, "kinds", 0);
        y.back(1);
        y.reading(1, 1);
        CHECKS.answers("of 1, none but a RIDER's is above 0", 1, y, "kinds", 0);
    }

    private static void oftenState() {
        DebtFerry none = new DebtFerry();
        CHECKS.answers("19 STATE: there is no RIVER", STATE, none, "often");
        CHECKS.answers("TIMES 1 .. 3, all of them without READINGS", 14, Checks.on(FIVE), "often");
    }

    private static void oftenOneByOne() {
        // Aboard 0 owes 2 to 1, TIMES as much; 1 owes v ashore, once.
        int[] due = {0, 0, 2, 0, 4, 0, 8, 0};
        for (int v = 0; v <= 7; v++) {
            DebtFerry x = Checks.on("o123,r0020,r000" + v + ",r0000");
            x.reading(3, 3);
            CHECKS.answers("two quarrelled, " + v + " owed ashore", due[v], x, "often");
            CHECKS.answers("TIMES stay", 2, x, "many", 2);
        }
        DebtFerry y = Checks.on("o123,r0020,r0003,r0000");
        y.reading(3, 1);
        CHECKS.answers("TIMES 2, 3", 12, y, "often");
        y.back(1);
        y.reading(3, 2);
        CHECKS.answers("TIMES 1", 2, y, "often");
    }

    private static void whatCannotBe() {
        String s = "READINGS that can't be so together";
        DebtFerry x = Checks.on("o112,r005,r050");
        x.reading(3, 1);
        x.reading(3, 2);
        CHECKS.answers(s, 0, x, "notes", 0, 1);
        CHECKS.answers(s, 0, x, "notes", 1, 0);
        CHECKS.answers(s, 0, x, "kinds", 0);
        CHECKS.answers(s, 0, x, "kinds", 1);
        CHECKS.answers(s, 0, x, "often");
        CHECKS.answers("an answer of now is as it was", 3, x, "pullers", 3);
    }

    private static void emptyLoads() {
        String s = "an empty LOAD has no PULLERS, whatever is owed";
        DebtFerry x = Checks.on(FIVE);
        x.reading(0, 0);
        CHECKS.answers(s, 1023, x, "notes", 0, 1);
        CHECKS.answers(s, 7, x, "kinds", 4);
        CHECKS.answers(s, 14, x, "often");
    }

    private static void allReadingsAreSo() {
        String s = "by which all READINGS are so, the first and the last";
        DebtFerry x = Checks.on("o113,r0050,r0000,r0030");
        x.reading(5, 1);
        for (int k = 0; k < 6; k++) {
            x.reading(0, 0);
        }
        CHECKS.answers(s, 1023 - 15, x, "notes", 0, 1);
        x.reading(1, 0);
        CHECKS.answers(s, 0, x, "notes", 0, 1);
        x.back(8);
        for (int k = 0; k < 7; k++) {
            x.reading(0, 0);
        }
        x.reading(5, 4);
        CHECKS.answers(s, 7, x, "notes", 0, 1);
    }

    private static void odds(String s, DebtFerry x, int p, int set, int upper, int lower) {
        CHECKS.answers(s, upper, x, "odds", p, set, 0);
        CHECKS.answers(s, lower, x, "odds", p, set, 1);
    }

    private static void oddsRefusals() {
        DebtFerry x = Checks.on(FIVE);
        x.put(0, -1, 0);
        for (int p : new int[] {LEAST, -1, 5, 31, 32, MOST}) {
            CHECKS.answers("20 LOST: UNKNOWN", DebtFerry.LOST, x, "odds", p, 31, 0);
        }
        for (int set : new int[] {LEAST, LEAST + 1, -1, 32, 33, MOST}) {
            CHECKS.answers("20 LOST: OUTSIDE: set", DebtFerry.LOST, x, "odds", 0, set, 0);
        }
        for (int which : new int[] {LEAST, -1, 2, MOST}) {
            CHECKS.answers("20 LOST: OUTSIDE: which", DebtFerry.LOST, x, "odds", 0, 1, which);
        }
        for (int p = 0; p < 5; p++) {
            CHECKS.answers("20 LOST: STATE: one is not of it", DebtFerry.LOST, x, "odds", p, 31 - (1 << p), 1);
            CHECKS.answers("20 LOST: STATE: one is not of it, which is empty", DebtFerry.LOST, x, "odds", p, 0, 0);
        }
        CHECKS.answers("20 names no FAULTS", 3, x, "fault");
        CHECKS.answers("20 LOST, no RIVER", DebtFerry.LOST, new DebtFerry(), "odds", 0, 1, 0);
    }

    private static void oddsOfNought() {
        String s = "lower number (above 0) in least terms: 0 of 1";
        odds(s, Checks.on("o112,r000,r090"), 0, 1, 0, 1);
        odds(s, Checks.on("o112,f001,b010"), 0, 3, 0, 1);
        odds(s, Checks.on("o112,f001,b010"), 1, 3, 0, 1);
        odds(s, Checks.on("o115,r000000,r000000,r000000,r000000,r000000"), 4, 31, 0, 1);
    }

    private static void oddsInLeastTerms() {
        DebtFerry x = Checks.on("o115,r000001,r020000,r030000,r040000,r050000");
        odds("the highest: one's own NOTES alone are wet or not", x, 4, 31, 1, 2);
        odds("all others are to be wet", x, 0, 31, 1, 32);
        odds("those ashore do not matter", x, 0, 1, 1, 2);
        odds("those ashore do not matter", x, 0, 17, 1, 4);
        DebtFerry two = Checks.on("o112,r001,r010");
        odds("one of two PULLERS is one of them", two, 0, 3, 1, 2);
        odds("one of two PULLERS is one of them", two, 1, 3, 1, 2);
        two.lend(0, 1, 2);
        odds("two, one owes more", two, 0, 3, 1, 2);
        odds("two, one owes more", two, 1, 3, 1, 4);
        CHECKS.answers("NOTES stay", 2, two, "owes", 0, 1);
    }
}
