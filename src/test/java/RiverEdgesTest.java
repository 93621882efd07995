/** The boundary cases of promises 1 to 7, each under the sentence that names it. */
public final class RiverEdgesTest {
    private static final Checks CHECKS = new Checks("RiverEdgesTest");
    private static final int LEAST = Integer.MIN_VALUE, MOST = Integer.MAX_VALUE;
    private static final int UNKNOWN = -1, OUTSIDE = -2, STATE = -3, NULL = -11, CAST = -12, INDEX = -13, SIZE = -14;
    /** 14 codes: RIDER 0 owes 3 to 1, FRIEND 1 is LAME and owes 5 to 0. */
    private static final String TWO = "o122,r003,f150";
    /** 44 codes, the longest TEXT that there is. */
    private static final String FIVE = "o335,r009999,f190999,b099099,r199909,f099990";

    public static void main(String[] args) {
        noPeopleAtFirst();
        sheetsHaveNothingAtFirst();
        roomIsOneToThree();
        timesAreOneToThree();
        peopleAreTwoToFive();
        commaAndLetters();
        lameIsNoughtOrOne();
        notesAreNoughtToNine();
        nothingIsOwedToOneself();
        itJustEndsTooSoon();
        codesBehindTheEnd();
        theFirstOfTwoFaults();
        placesAreOfTheText();
        theLongestTextAtTheEndOfARow();
        codesAreCutToTheirLane();
        riverRefusals();
        riverFaultsInOrder();
        riverIndex();
        aTextMakesAllAnew();
        ofPersonEdges();
        owesEdges();
        lendEdges();
        countEdges();
        buildEdges();
        CHECKS.close();
    }

    private static void noPeopleAtFirst() {
        String s = "1 No RIVER (no PEOPLE)";
        DebtFerry x = new DebtFerry();
        for (int what = 0; what <= 3; what++) {
            CHECKS.answers(s, 0, x, "many", what);
        }
        CHECKS.answers(s, UNKNOWN, x, "ofPerson", 0, 0);
        CHECKS.answers(s, UNKNOWN, x, "owes", 0, 0);
        CHECKS.answers(s, UNKNOWN, x, "lend", 0, 1, 0);
        CHECKS.answers(s, STATE, x, "count", 1);
        CHECKS.answers(s, STATE, x, "build", 1);
        CHECKS.answers(s, UNKNOWN, x, "debt", 0, 0);
        CHECKS.answers(s, STATE, x, "pullers", 0);
        CHECKS.answers(s, STATE, x, "fair", 0);
        CHECKS.answers(s, STATE, x, "cross", -1);
        CHECKS.answers(s, UNKNOWN, x, "loan", 0, 0, 0);
        CHECKS.answers(s, STATE, x, "forgave", 0);
        CHECKS.answers(s, STATE, x, "reading", 0, 0);
        CHECKS.answers(s, 0, x, "back", 0);
        CHECKS.answers(s, OUTSIDE, x, "back", 1);
        CHECKS.answers(s, UNKNOWN, x, "notes", 0, 1);
        CHECKS.answers(s, UNKNOWN, x, "kinds", 0);
        CHECKS.answers(s, STATE, x, "often");
        CHECKS.answers(s, DebtFerry.LOST, x, "odds", 0, 0, 0);
        CHECKS.answers(s, UNKNOWN, x, "tell", 0);
        CHECKS.answers(s, UNKNOWN, x, "hail", 0);
        CHECKS.answers(s, UNKNOWN, x, "as", 0, 0);
        CHECKS.answers(s, 0, x, "trace");
        CHECKS.answers(s, 0, x, "fault");
        x.sheet(0, 0, 0);
        CHECKS.answers(s, STATE, x, "loads", 0, 0, 0, 0, 0);
    }

    private static void sheetsHaveNothingAtFirst() {
        String s = "1 SHEETS have nothing";
        for (int k = 0; k <= 3; k++) {
            DebtFerry x = new DebtFerry();
            CHECKS.answers(s, NULL, x, "river", k, 0, 0, 0);
            CHECKS.answers(s, NULL, x, "loads", k, 0, 0, 0, 0);
            CHECKS.answers(s, NULL, x, "put", k, 0, 0);
            CHECKS.answers(s, DebtFerry.LOST, x, "cell", k, 0, 0);
            CHECKS.answers(s, 1, x, "fault");
            CHECKS.answers(s, NULL, x, "copy", k, 0, k, 0, 0);
            CHECKS.answers(s, 0, x, "lose", k);
        }
    }

    /** TWO with another code at a place: whether it is taken, or that place is the FIRST FAULT. */
    private static void spoiled(String s, int place, String fitting, String others) {
        for (char code : fitting.toCharArray()) {
            DebtFerry x = new DebtFerry();
            Checks.write(x, 0, 0, TWO);
            x.put(0, place, code);
            CHECKS.due(s + ": '" + code + "' at " + place, 2, x.river(0, 0, 0, 14));
            CHECKS.due(s + ": PEOPLE", 2, x.many(0));
        }
        for (char code : others.toCharArray()) {
            DebtFerry x = new DebtFerry();
            Checks.write(x, 0, 0, TWO);
            x.put(0, place, code);
            CHECKS.due(s + ": '" + code + "' at " + place, -100 - place, x.river(0, 0, 0, 14));
            CHECKS.due(s + ": no PEOPLE", 0, x.many(0));
        }
    }

    private static void roomIsOneToThree() {
        spoiled("a digit 1 .. 3 (ROOM)", 1, "123", "/049:,o");
        for (int room = 1; room <= 3; room++) {
            CHECKS.due("ROOM as told", room, Checks.on("o" + room + "12,r000,r000").many(1));
        }
        spoiled("a TEXT begins with o", 0, "o", "np0O,r");
    }

    private static void timesAreOneToThree() {
        spoiled("a digit 1 .. 3 (TIMES)", 2, "123", "/049:,r");
        for (int times = 1; times <= 3; times++) {
            CHECKS.due("TIMES as told", times, Checks.on("o1" + times + "2,r000,r000").many(2));
        }
    }

    private static void peopleAreTwoToFive() {
        String s = "a digit 2 .. 5 (PEOPLE)";
        spoiled(s, 3, "2", "/0169:,");
        // The comma of PERSON 1 stands where three or more would have a NOTE.
        for (int people = 3; people <= 5; people++) {
            DebtFerry x = new DebtFerry();
            Checks.write(x, 0, 0, TWO);
            x.put(0, 3, '0' + people);
            CHECKS.due(s + ": " + people + " told, two there", -109, x.river(0, 0, 0, 14));
        }
        CHECKS.due(s, 2, Checks.take(new DebtFerry(), "o112,r000,r000"));
        CHECKS.due(s, 3, Checks.take(new DebtFerry(), "o113,r0000,r0000,r0000"));
        CHECKS.due(s, 4, Checks.take(new DebtFerry(), "o114,r00000,r00000,r00000,r00000"));
        CHECKS.due(s, 5, Checks.take(new DebtFerry(), "o115,r000000,r000000,r000000,r000000,r000000"));
        CHECKS.due(s, -103, Checks.take(new DebtFerry(), "o111,r00"));
        CHECKS.due(s, -103, Checks.take(new DebtFerry(), "o116,r0000000"));
    }

    private static void commaAndLetters() {
        spoiled("for each PERSON: ,", 4, ",", "+-.0r;");
        spoiled("for each PERSON: ,", 9, ",", "+-.0r;");
        spoiled("a letter", 5, "rfb", "acegqsRFB0,o");
        spoiled("a letter", 10, "rfb", "acegqsRFB0,o");
        String letters = "rfb";
        for (int kind = 0; kind <= 2; kind++) {
            DebtFerry x = Checks.on("o112,r000," + letters.charAt(kind) + "000");
            CHECKS.due("Kinds by letter", kind, x.ofPerson(1, 0));
        }
    }

    private static void lameIsNoughtOrOne() {
        spoiled("a digit 0 .. 1 (1: one is LAME)", 6, "01", "/23:,r");
        spoiled("a digit 0 .. 1 (1: one is LAME)", 11, "01", "/23:,r");
    }

    private static void notesAreNoughtToNine() {
        spoiled("digits 0 .. 9", 8, "0123456789", "/:,-r");
        spoiled("digits 0 .. 9", 12, "0123456789", "/:,-r");
    }

    private static void nothingIsOwedToOneself() {
        spoiled("to oneself 0", 7, "0", "/123456789:,");
        spoiled("to oneself 0", 13, "0", "/123456789:,");
        String three = "o113,r0000,r0000,r0000";
        for (int p = 0; p < 3; p++) {
            int place = 4 + p * 6 + 3 + p;
            String text = three.substring(0, place) + "1" + three.substring(place + 1);
            CHECKS.due("to oneself 0: PERSON " + p, -100 - place, Checks.take(new DebtFerry(), text));
        }
    }

    private static void itJustEndsTooSoon() {
        String s = "how many codes there are, if it just ends too soon";
        DebtFerry x = new DebtFerry();
        Checks.write(x, 0, 0, FIVE);
        for (int n = 0; n < 44; n++) {
            CHECKS.answers(s, -100 - n, x, "river", 0, 0, 0, n);
            CHECKS.answers(s, 0, x, "fault");
        }
        CHECKS.answers(s, 0, x, "many", 0);
        CHECKS.answers(s, 5, x, "river", 0, 0, 0, 44);
        x.sheet(1, 0, 0);
        CHECKS.answers("an empty row is a TEXT that ends too soon", -100, x, "river", 1, 0, 0, 0);
    }

    private static void codesBehindTheEnd() {
        String s = "the first code with which no TEXT goes on, behind a whole one";
        for (String more : new String[] {"0", ",", "o", ",r00", TWO}) {
            CHECKS.due(s, -114, Checks.take(new DebtFerry(), TWO + more));
            CHECKS.due(s, -144, Checks.take(new DebtFerry(), FIVE + more));
        }
    }

    private static void theFirstOfTwoFaults() {
        String s = "FIRST FAULT: the first";
        CHECKS.due(s, -100, Checks.take(new DebtFerry(), "x422,r003,f150"));
        CHECKS.due(s, -101, Checks.take(new DebtFerry(), "o429,r003,f150"));
        CHECKS.due(s, -108, Checks.take(new DebtFerry(), "o122,r00r,x999"));
        CHECKS.due("a fault ahead of an end too soon", -105, Checks.take(new DebtFerry(), "o122,x"));
        CHECKS.due("a fault alone", -100, Checks.take(new DebtFerry(), "r"));
        CHECKS.due("a fault ahead of codes too many", -113, Checks.take(new DebtFerry(), "o122,r003,f151,,"));
    }

    private static void placesAreOfTheText() {
        String s = "the place (from 0 on), of a TEXT from i on";
        DebtFerry x = new DebtFerry();
        Checks.write(x, 2, 1, "ooo122,r003,f15x");
        CHECKS.answers(s, -113, x, "river", 2, 1, 2, 14);
        CHECKS.answers(s, -113, x, "river", 2, 1, 2, 13);
        CHECKS.answers(s, -101, x, "river", 2, 1, 1, 15);
        x.put(2, 15, '0');
        CHECKS.answers(s, 2, x, "river", 2, 1, 2, 14);
    }

    private static void theLongestTextAtTheEndOfARow() {
        String s = "a TEXT of the last cells of the longest row";
        DebtFerry x = new DebtFerry();
        x.sheet(0, 0, 60);
        for (int k = 0; k < 44; k++) {
            x.put(0, 16 + k, FIVE.charAt(k));
        }
        CHECKS.answers(s, INDEX, x, "river", 0, 0, 17, 44);
        CHECKS.answers(s, INDEX, x, "river", 0, 0, 16, 45);
        CHECKS.answers(s, -100, x, "river", 0, 0, 15, 45);
        CHECKS.answers(s, 5, x, "river", 0, 0, 16, 44);
        CHECKS.answers(s, -100, x, "river", 0, 0, 0, 60);
    }

    private static void codesAreCutToTheirLane() {
        String s = "what comes to a cell is cut to its LANE, so a code is, too";
        int[][] due = {{256, 2, -100, -100}, {65536, 2, 2, -100}, {-256, 2, -100, -100}, {128, -100, -100, -100}};
        for (int[] d : due) {
            for (int lane = 0; lane <= 2; lane++) {
                DebtFerry x = new DebtFerry();
                Checks.write(x, 0, lane, TWO);
                x.put(0, 0, 'o' + d[0]);
                CHECKS.due(s + ": o and " + d[0] + ", LANE " + lane, d[1 + lane], x.river(0, lane, 0, 14));
            }
        }
    }

    private static void riverRefusals() {
        DebtFerry x = Checks.on(TWO);
        for (int k : new int[] {LEAST, -1, 4, 5, MOST}) {
            x.put(0, -1, 0);
            CHECKS.answers("2 UNKNOWN ahead of OUTSIDE", UNKNOWN, x, "river", k, 3, -1, -1);
            CHECKS.answers("2 fault() of one refused", 0, x, "fault");
        }
        for (int lane : new int[] {LEAST, -1, 3, MOST}) {
            x.put(0, -1, 0);
            CHECKS.answers("2 OUTSIDE: lane, ahead of NULL", OUTSIDE, x, "river", 1, lane, 0, 0);
            CHECKS.answers("2 fault() of one refused", 0, x, "fault");
            CHECKS.answers("2 OUTSIDE: lane, ahead of SIZE", OUTSIDE, x, "river", 0, lane, 0, -1);
        }
    }

    private static void riverFaultsInOrder() {
        DebtFerry x = new DebtFerry();
        Checks.write(x, 0, 1, TWO);
        for (int lane : new int[] {0, 2}) {
            CHECKS.answers("2 CAST ahead of SIZE", CAST, x, "river", 0, lane, 0, -1);
            CHECKS.answers("2 CAST ahead of INDEX", CAST, x, "river", 0, lane, 15, 1);
            CHECKS.answers("2 fault() tells it", 2, x, "fault");
        }
        for (int lane = 0; lane <= 2; lane++) {
            CHECKS.answers("2 nothing is no CAST, but NULL", NULL, x, "river", 1, lane, 0, 0);
            CHECKS.answers("2 NULL ahead of SIZE", NULL, x, "river", 1, lane, 0, -1);
            CHECKS.answers("2 fault() tells it", 1, x, "fault");
        }
        CHECKS.answers("2 SIZE: n is below 0", SIZE, x, "river", 0, 1, 0, -1);
        CHECKS.answers("2 SIZE: n is below 0", SIZE, x, "river", 0, 1, 0, LEAST);
        CHECKS.answers("2 SIZE ahead of INDEX", SIZE, x, "river", 0, 1, -1, -1);
        CHECKS.answers("2 SIZE ahead of INDEX", SIZE, x, "river", 0, 1, 15, LEAST);
        CHECKS.answers("2 fault() tells it", 4, x, "fault");
    }

    private static void riverIndex() {
        String s = "2 INDEX: not all cells are there";
        DebtFerry x = new DebtFerry();
        Checks.write(x, 0, 1, TWO);
        int[][] beyond = {{0, 15}, {1, 14}, {13, 2}, {14, 1}, {-1, 1}, {-1, 15}, {LEAST, 1}, {MOST, 1}, {1, MOST}, {MOST, MOST}, {LEAST, MOST}};
        for (int[] b : beyond) {
            CHECKS.answers(s, INDEX, x, "river", 0, 1, b[0], b[1]);
            CHECKS.answers(s, 3, x, "fault");
        }
        String none = "INDEX also where i is not 0 .. how many there are, if none of them is taken";
        for (int i : new int[] {LEAST, -1, 15, 60, MOST}) {
            CHECKS.answers(none, INDEX, x, "river", 0, 1, i, 0);
        }
        for (int i : new int[] {0, 1, 13, 14}) {
            CHECKS.answers(none, -100, x, "river", 0, 1, i, 0);
            CHECKS.answers(none, 0, x, "fault");
        }
        x.sheet(3, 2, 0);
        CHECKS.answers(none, -100, x, "river", 3, 2, 0, 0);
        CHECKS.answers(none, INDEX, x, "river", 3, 2, 1, 0);
        CHECKS.answers(none, INDEX, x, "river", 3, 2, -1, 0);
    }

    private static void aTextMakesAllAnew() {
        String s = "A TEXT that is taken makes all anew: no READINGS";
        DebtFerry x = Checks.on(FIVE);
        for (int k = 0; k < 8; k++) {
            x.reading(31, 0);
        }
        CHECKS.answers(s, DebtFerry.FULL, x, "reading", 1, 0);
        CHECKS.answers(s, 0, x, "notes", 0, 1);
        CHECKS.answers(s, 5, x, "river", 0, 0, 0, 44);
        CHECKS.answers(s, 0, x, "many", 3);
        CHECKS.answers(s, 1023, x, "notes", 0, 1);
        CHECKS.answers(s, 7, x, "kinds", 0);
        CHECKS.answers(s, 14, x, "often");
        CHECKS.answers(s, OUTSIDE, x, "back", 1);
        CHECKS.answers(s, 0, x, "reading", 1, 0);
        x.lend(0, 1, 1);
        x.count(1);
        x.build(1);
        CHECKS.answers(s, 5, x, "river", 0, 0, 0, 44);
        CHECKS.answers(s, 9, x, "owes", 0, 1);
        CHECKS.answers(s, 3, x, "many", 1);
        CHECKS.answers(s, 3, x, "many", 2);
        CHECKS.answers(s, 1, x, "ofPerson", 1, 1);
        Checks.take(x, "o112,r000,r000");
        CHECKS.answers(s + ", none who was LAME", 0, x, "ofPerson", 1, 1);
        Checks.take(x, FIVE);
        // The RIVER is not the SHEET: what comes to the SHEET behind it is not the RIVER's.
        x.put(0, 8, '0');
        x.lose(0);
        CHECKS.answers("a RIVER stays, as its SHEET goes", 9, x, "owes", 0, 1);
        CHECKS.answers("a RIVER stays, as its SHEET goes", 5, x, "many", 0);
    }

    private static void ofPersonEdges() {
        DebtFerry x = Checks.on(FIVE);
        for (int p : new int[] {LEAST, -1, 5, 31, 32, MOST}) {
            CHECKS.answers("3 UNKNOWN", UNKNOWN, x, "ofPerson", p, 0);
            CHECKS.answers("3 UNKNOWN ahead of OUTSIDE", UNKNOWN, x, "ofPerson", p, 3);
        }
        for (int what : new int[] {LEAST, -1, 3, MOST}) {
            CHECKS.answers("3 OUTSIDE", OUTSIDE, x, "ofPerson", 4, what);
        }
        CHECKS.answers("3 kind, the least", 0, x, "ofPerson", 0, 0);
        CHECKS.answers("3 kind, the highest", 2, x, "ofPerson", 2, 0);
        CHECKS.answers("3 whether one is LAME (1, 0)", 1, x, "ofPerson", 1, 1);
        CHECKS.answers("3 whether one is LAME (1, 0)", 0, x, "ofPerson", 4, 1);
        CHECKS.answers("3 all NOTES together, the most", 36, x, "ofPerson", 4, 2);
        DebtFerry y = Checks.on("o112,r000,f100");
        CHECKS.answers("3 all NOTES together, none", 0, y, "ofPerson", 1, 2);
        CHECKS.answers("3 UNKNOWN of two", UNKNOWN, y, "ofPerson", 2, 0);
        Checks.take(x, TWO);
        CHECKS.answers("3 UNKNOWN, there were more before", UNKNOWN, x, "ofPerson", 2, 0);
        CHECKS.answers("3 all NOTES, there were more before", 3, x, "ofPerson", 0, 2);
    }

    private static void owesEdges() {
        DebtFerry x = Checks.on(FIVE);
        for (int p : new int[] {LEAST, -1, 5, MOST}) {
            CHECKS.answers("4 UNKNOWN: a", UNKNOWN, x, "owes", p, 0);
            CHECKS.answers("4 UNKNOWN: b", UNKNOWN, x, "owes", 0, p);
            CHECKS.answers("4 UNKNOWN: both", UNKNOWN, x, "owes", p, p);
        }
        for (int p = 0; p < 5; p++) {
            CHECKS.answers("4 to oneself 0", 0, x, "owes", p, p);
        }
        CHECKS.answers("4 the most", 9, x, "owes", 4, 3);
        CHECKS.answers("4 one to another, not back", 3, Checks.on(TWO), "owes", 0, 1);
        CHECKS.answers("4 one to another, not back", 5, Checks.on(TWO), "owes", 1, 0);
    }

    private static void lendEdges() {
        DebtFerry x = Checks.on(TWO);
        for (int v : new int[] {LEAST, -1, 10, MOST}) {
            CHECKS.answers("5 OUTSIDE: v is not 0 .. 9", OUTSIDE, x, "lend", 0, 1, v);
            CHECKS.answers("5 it changes nothing", 3, x, "owes", 0, 1);
        }
        CHECKS.answers("5 the most", 3, x, "lend", 0, 1, 9);
        CHECKS.answers("5 the same again", 9, x, "lend", 0, 1, 9);
        CHECKS.answers("5 the least", 9, x, "lend", 0, 1, 0);
        CHECKS.answers("5 what it was", 0, x, "lend", 0, 1, 1);
        CHECKS.answers("5 not the NOTE back", 5, x, "owes", 1, 0);
        for (int p : new int[] {LEAST, -1, 2, MOST}) {
            CHECKS.answers("5 UNKNOWN: a, ahead of OUTSIDE", UNKNOWN, x, "lend", p, 0, 10);
            CHECKS.answers("5 UNKNOWN: b, ahead of OUTSIDE", UNKNOWN, x, "lend", 0, p, 10);
        }
        CHECKS.answers("5 UNKNOWN: one to oneself", UNKNOWN, x, "lend", 1, 1, 0);
        CHECKS.answers("5 UNKNOWN: one to oneself, ahead of OUTSIDE", UNKNOWN, x, "lend", 1, 1, -1);
        CHECKS.answers("5 to oneself stays 0", 0, x, "owes", 1, 1);
    }

    private static void countEdges() {
        DebtFerry none = new DebtFerry();
        DebtFerry x = Checks.on(TWO);
        for (int v : new int[] {LEAST, -1, 0, 4, MOST}) {
            CHECKS.answers("6 OUTSIDE: v is not 1 .. 3", OUTSIDE, x, "count", v);
            CHECKS.answers("6 OUTSIDE ahead of STATE", OUTSIDE, none, "count", v);
        }
        CHECKS.answers("6 it changes nothing", 2, x, "many", 2);
        CHECKS.answers("6 the most", 2, x, "count", 3);
        CHECKS.answers("6 the least", 3, x, "count", 1);
        CHECKS.answers("6 the same again", 1, x, "count", 1);
        CHECKS.answers("6 ROOM stays", 1, x, "many", 1);
        CHECKS.answers("6 STATE: there is no RIVER", STATE, none, "count", 1);
        CHECKS.answers("6 STATE: there is no RIVER", STATE, none, "count", 3);
        CHECKS.answers("6 TIMES, no RIVER", 0, none, "many", 2);
    }

    private static void buildEdges() {
        DebtFerry none = new DebtFerry();
        DebtFerry x = Checks.on(TWO);
        for (int v : new int[] {LEAST, -1, 0, 4, MOST}) {
            CHECKS.answers("7 OUTSIDE: v is not 1 .. 3", OUTSIDE, x, "build", v);
            CHECKS.answers("7 OUTSIDE ahead of STATE", OUTSIDE, none, "build", v);
        }
        CHECKS.answers("7 it changes nothing", 1, x, "many", 1);
        CHECKS.answers("7 the most", 1, x, "build", 3);
        CHECKS.answers("7 the least", 3, x, "build", 1);
        CHECKS.answers("7 the same again", 1, x, "build", 1);
        CHECKS.answers("7 TIMES stay", 2, x, "many", 2);
        CHECKS.answers("7 STATE: there is no RIVER", STATE, none, "build", 1);
        CHECKS.answers("7 STATE: there is no RIVER", STATE, none, "build", 3);
        CHECKS.answers("7 ROOM, no RIVER", 0, none, "many", 1);
    }
}
