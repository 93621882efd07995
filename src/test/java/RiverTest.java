/** Promises 1 to 7: a new object, river, ofPerson, owes, lend, count, build. */
public final class RiverTest {
    private static final Checks CHECKS = new Checks("RiverTest");
    private static final String TWO = "o122,r003,f150";
    private static final String FIVE = "o335,r001234,f110567,b089012,r134506,f078900";

    public static void main(String[] args) {
        newObject();
        textsThatAreTaken();
        firstFaults();
        riverRefusals();
        riverFaults();
        riverMakesAllAnew();
        riverRefusedChangesNothing();
        lanesOfCodes();
        ofPerson();
        owes();
        lend();
        countAndBuild();
        CHECKS.close();
    }

    private static void newObject() {
        DebtFerry x = new DebtFerry();
        for (int what = 0; what <= 3; what++) {
            CHECKS.due("1 many(" + what + ")", 0, x.many(what));
        }
        for (int k = 0; k <= 3; k++) {
            CHECKS.due("1 lose(" + k + ")", 0, x.lose(k));
            CHECKS.due("1 put(" + k + ", 0, 0)", -11, x.put(k, 0, 0));
        }
        x = new DebtFerry();
        CHECKS.due("1 trace()", 0, x.trace());
        CHECKS.due("1 fault()", 0, x.fault());
        CHECKS.due("1 ofPerson(0, 0)", DebtFerry.UNKNOWN, x.ofPerson(0, 0));
        CHECKS.due("1 pullers(0)", DebtFerry.STATE, x.pullers(0));
    }

    private static void textsThatAreTaken() {
        DebtFerry x = new DebtFerry();
        CHECKS.due("2 river of two", 2, Checks.take(x, TWO));
        CHECKS.due("2 ROOM", 1, x.many(1));
        CHECKS.due("2 TIMES", 2, x.many(2));
        CHECKS.due("2 river of five", 5, Checks.take(x, FIVE));
        CHECKS.due("2 PEOPLE", 5, x.many(0));
        CHECKS.due("2 ROOM", 3, x.many(1));
        CHECKS.due("2 TIMES", 3, x.many(2));
        CHECKS.due("2 river of three", 3, Checks.take(x, "o213,r0090,f1909,b0990"));
        CHECKS.due("2 river of four", 4, Checks.take(x, "o134,r00000,r00000,r00000,r00000"));
        Checks.write(x, 3, 0, "xx" + TWO + "yy");
        CHECKS.due("2 river of cells from 2 on", 2, x.river(3, 0, 2, TWO.length()));
    }

    /** Each prefix ends too soon; each place spoiled is the FIRST FAULT, for codes at all edges. */
    private static void firstFaults() {
        for (String text : new String[] {TWO, FIVE, "o213,r0090,f1909,b0990"}) {
            DebtFerry x = new DebtFerry();
            for (int n = 0; n < text.length(); n++) {
                if (n % 8 == 0) {
                    x = new DebtFerry();
                }
                Checks.write(x, 1, 2, text);
                CHECKS.due("2 river of the first " + n, -100 - n, x.river(1, 2, 0, n));
                CHECKS.due("2 PEOPLE then", 0, x.many(0));
            }
            x = new DebtFerry();
            Checks.write(x, 1, 2, text + "0");
            CHECKS.due("2 river of one more", -100 - text.length(), x.river(1, 2, 0, text.length() + 1));
            Checks.write(x, 1, 2, text + ",r0");
            CHECKS.due("2 river of a PERSON more", -100 - text.length(), x.river(1, 2, 0, text.length() + 3));
            CHECKS.due("2 river of a comma more", -100 - text.length(), x.river(1, 2, 0, text.length() + 1));
            CHECKS.due("2 river without it", text.charAt(3) - '0', x.river(1, 2, 0, text.length()));
            for (int place = 0; place < text.length(); place++) {
                spoil(text, place);
            }
        }
    }

    private static void spoil(String text, int place) {
        DebtFerry x = new DebtFerry();
        Checks.write(x, 1, 2, text);
        int people = text.charAt(3) - '0';
        int at = place < 4 ? -1 : (place - 4) % (3 + people);
        int person = place < 4 ? -1 : (place - 4) / (3 + people);
        for (int code : new int[] {-1, 0, 44, 47, 48, 49, 50, 51, 52, 53, 54, 57, 58, 98, 102, 111, 114, 120, 111 + 256, Integer.MIN_VALUE}) {
            boolean fits;
            if (place == 0) {
                fits = code == 111;
            } else if (place <= 2) {
                fits = code >= 49 && code <= 51;
            } else if (place == 3) {
                // Another number of PEOPLE moves the rest: only what can't be one is told here.
                if (code >= 50 && code <= 53) {
                    continue;
                }
                fits = false;
            } else if (at == 0) {
                fits = code == 44;
            } else if (at == 1) {
                fits = code == 114 || code == 102 || code == 98;
            } else if (at == 2) {
                fits = code == 48 || code == 49;
            } else if (at - 3 == person) {
                fits = code == 48;
            } else {
                fits = code >= 48 && code <= 57;
            }
            x.put(1, place, code);
            CHECKS.due("2 river, " + code + " at " + place, fits ? people : -100 - place, x.river(1, 2, 0, text.length()));
        }
    }

    private static void riverRefusals() {
        DebtFerry x = new DebtFerry();
        Checks.write(x, 0, 1, TWO);
        CHECKS.due("2 river(-1, ..)", DebtFerry.UNKNOWN, x.river(-1, 9, -1, -1));
        CHECKS.due("2 river(4, ..)", DebtFerry.UNKNOWN, x.river(4, 1, 0, 14));
        CHECKS.due("2 river(0, -1, ..)", DebtFerry.OUTSIDE, x.river(0, -1, -1, -1));
        CHECKS.due("2 river(0, 3, ..)", DebtFerry.OUTSIDE, x.river(0, 3, 0, 14));
    }

    private static void riverFaults() {
        DebtFerry x = new DebtFerry();
        Checks.write(x, 0, 1, TWO);
        CHECKS.due("2 CAST ahead of SIZE", -12, x.river(0, 0, 99, -1));
        CHECKS.due("2 fault()", 2, x.fault());
        CHECKS.due("2 CAST, ints", -12, x.river(0, 2, 0, 14));
        CHECKS.due("2 NULL ahead of SIZE", -11, x.river(1, 0, 99, -1));
        CHECKS.due("2 fault()", 1, x.fault());
        CHECKS.due("2 SIZE ahead of INDEX", -14, x.river(0, 1, 99, -1));
        CHECKS.due("2 fault()", 4, x.fault());
        CHECKS.due("2 INDEX beyond", -13, x.river(0, 1, 0, 15));
        CHECKS.due("2 fault()", 3, x.fault());
        CHECKS.due("2 INDEX beyond from 1 on", -13, x.river(0, 1, 1, 14));
        CHECKS.due("2 INDEX below", -13, x.river(0, 1, -1, 1));
        CHECKS.due("2 INDEX of none, below", -13, x.river(0, 1, -1, 0));
        CHECKS.due("2 INDEX of none, beyond", -13, x.river(0, 1, 15, 0));
        CHECKS.due("2 none at the end", -100, x.river(0, 1, 14, 0));
        CHECKS.due("2 fault() of a FIRST FAULT", 0, x.fault());
        CHECKS.due("2 INDEX, n is huge", -13, x.river(0, 1, 1, Integer.MAX_VALUE));
        CHECKS.due("2 INDEX, i is huge", -13, x.river(0, 1, Integer.MAX_VALUE, Integer.MAX_VALUE));
        CHECKS.due("2 INDEX, i is least", -13, x.river(0, 1, Integer.MIN_VALUE, 14));
        CHECKS.due("2 SIZE, n is least", -14, x.river(0, 1, 0, Integer.MIN_VALUE));
        CHECKS.due("2 taken", 2, x.river(0, 1, 0, 14));
        CHECKS.due("2 fault() of a TEXT taken", 0, x.fault());
    }

    private static void riverMakesAllAnew() {
        DebtFerry x = Checks.on(FIVE);
        x.reading(31, 0);
        x.lend(0, 1, 9);
        x.tell(0);
        CHECKS.due("2 river anew", 2, Checks.take(x, TWO));
        CHECKS.due("2 no READINGS", 0, x.many(3));
        CHECKS.due("2 back(1)", DebtFerry.OUTSIDE, x.back(1));
        CHECKS.due("2 owes(0, 1)", 3, x.owes(0, 1));
        CHECKS.due("2 kind of 0", 0, x.ofPerson(0, 0));
        CHECKS.due("2 kind of 1", 1, x.ofPerson(1, 0));
        CHECKS.due("2 lame of 1", 1, x.ofPerson(1, 1));
        CHECKS.due("2 no PERSON 2", DebtFerry.UNKNOWN, x.ofPerson(2, 0));
        CHECKS.due("2 cell of the SHEET", 111, x.cell(0, 0, 0));
        CHECKS.due("2 TRACE stays", 1, x.trace());
        CHECKS.due("2 river of five again", 5, Checks.take(x, FIVE));
        CHECKS.due("2 owes(0, 1) as told", 1, x.owes(0, 1));
        CHECKS.due("2 lame of 0 as told", 0, x.ofPerson(0, 1));
        CHECKS.due("2 lame of 1 as told", 1, x.ofPerson(1, 1));
        CHECKS.due("2 lame of 2 as told", 0, x.ofPerson(2, 1));
        CHECKS.due("2 river of none who is lame", 2, Checks.take(x, "o112,r003,f050"));
        CHECKS.due("2 lame of 1 anew", 0, x.ofPerson(1, 1));
    }

    private static void riverRefusedChangesNothing() {
        DebtFerry x = Checks.on(TWO);
        x.reading(3, 2);
        Checks.write(x, 1, 0, "o335,r0");
        CHECKS.due("2 ends too soon", -107, x.river(1, 0, 0, 7));
        x.river(2, 0, 0, 7);
        x.river(1, 0, 0, 8);
        x.river(9, 0, 0, 8);
        CHECKS.due("2 PEOPLE stay", 2, x.many(0));
        CHECKS.due("2 ROOM stays", 1, x.many(1));
        CHECKS.due("2 TIMES stay", 2, x.many(2));
        CHECKS.due("2 READINGS stay", 1, x.many(3));
        CHECKS.due("2 NOTES stay", 5, x.owes(1, 0));
    }

    private static void lanesOfCodes() {
        for (int lane = 0; lane <= 2; lane++) {
            DebtFerry x = new DebtFerry();
            Checks.write(x, 2, lane, TWO);
            CHECKS.due("2 river of LANE " + lane, 2, x.river(2, lane, 0, 14));
            x.put(2, 0, 111 + 65536);
            CHECKS.due("2 river, cut to LANE " + lane, lane == 2 ? -100 : 2, x.river(2, lane, 0, 14));
        }
    }

    private static void ofPerson() {
        DebtFerry x = Checks.on(FIVE);
        int[] kinds = {0, 1, 2, 0, 1};
        int[] lame = {0, 1, 0, 1, 0};
        int[] all = {0 + 1 + 2 + 3 + 4, 1 + 5 + 6 + 7, 8 + 9 + 1 + 2, 3 + 4 + 5 + 6, 7 + 8 + 9};
        for (int p = 0; p < 5; p++) {
            CHECKS.due("3 ofPerson(" + p + ", 0)", kinds[p], x.ofPerson(p, 0));
            CHECKS.due("3 ofPerson(" + p + ", 1)", lame[p], x.ofPerson(p, 1));
            CHECKS.due("3 ofPerson(" + p + ", 2)", all[p], x.ofPerson(p, 2));
            CHECKS.due("3 ofPerson(" + p + ", -1)", DebtFerry.OUTSIDE, x.ofPerson(p, -1));
            CHECKS.due("3 ofPerson(" + p + ", 3)", DebtFerry.OUTSIDE, x.ofPerson(p, 3));
        }
        CHECKS.due("3 ofPerson(-1, 0)", DebtFerry.UNKNOWN, x.ofPerson(-1, 0));
        CHECKS.due("3 ofPerson(5, 9)", DebtFerry.UNKNOWN, x.ofPerson(5, 9));
    }

    private static void owes() {
        DebtFerry x = Checks.on(FIVE);
        String rows = "01234" + "10567" + "89012" + "34506" + "78900";
        for (int a = 0; a < 5; a++) {
            for (int b = 0; b < 5; b++) {
                CHECKS.due("4 owes(" + a + ", " + b + ")", rows.charAt(5 * a + b) - '0', x.owes(a, b));
            }
        }
        CHECKS.due("4 owes(-1, 0)", DebtFerry.UNKNOWN, x.owes(-1, 0));
        CHECKS.due("4 owes(0, -1)", DebtFerry.UNKNOWN, x.owes(0, -1));
        CHECKS.due("4 owes(5, 0)", DebtFerry.UNKNOWN, x.owes(5, 0));
        CHECKS.due("4 owes(0, 5)", DebtFerry.UNKNOWN, x.owes(0, 5));
        CHECKS.due("4 owes of two (0, 2)", DebtFerry.UNKNOWN, Checks.on(TWO).owes(0, 2));
    }

    private static void lend() {
        DebtFerry x = Checks.on(TWO);
        CHECKS.due("5 lend(0, 1, 9)", 3, x.lend(0, 1, 9));
        CHECKS.due("5 owes(0, 1)", 9, x.owes(0, 1));
        CHECKS.due("5 owes(1, 0)", 5, x.owes(1, 0));
        CHECKS.due("5 lend(0, 1, 0)", 9, x.lend(0, 1, 0));
        CHECKS.due("5 lend(0, 1, 4)", 0, x.lend(0, 1, 4));
        CHECKS.due("5 lend(0, 1, 10)", DebtFerry.OUTSIDE, x.lend(0, 1, 10));
        CHECKS.due("5 lend(0, 1, -1)", DebtFerry.OUTSIDE, x.lend(0, 1, -1));
        CHECKS.due("5 lend(0, 0, 0)", DebtFerry.UNKNOWN, x.lend(0, 0, 0));
        CHECKS.due("5 lend(2, 0, 10)", DebtFerry.UNKNOWN, x.lend(2, 0, 10));
        CHECKS.due("5 lend(0, 2, 10)", DebtFerry.UNKNOWN, x.lend(0, 2, 10));
        CHECKS.due("5 lend(-1, 0, 1)", DebtFerry.UNKNOWN, x.lend(-1, 0, 1));
        CHECKS.due("5 lend(0, -1, 1)", DebtFerry.UNKNOWN, x.lend(0, -1, 1));
        CHECKS.due("5 owes(0, 1) stays", 4, x.owes(0, 1));
        CHECKS.due("5 debt(0, 3) follows", 8, x.debt(0, 3));
    }

    private static void countAndBuild() {
        DebtFerry none = new DebtFerry();
        CHECKS.due("6 count(0), no RIVER", DebtFerry.OUTSIDE, none.count(0));
        CHECKS.due("6 count(1), no RIVER", DebtFerry.STATE, none.count(1));
        CHECKS.due("7 build(4), no RIVER", DebtFerry.OUTSIDE, none.build(4));
        CHECKS.due("7 build(3), no RIVER", DebtFerry.STATE, none.build(3));
        CHECKS.due("6 TIMES, no RIVER", 0, none.many(2));
        CHECKS.due("7 ROOM, no RIVER", 0, none.many(1));
        DebtFerry x = Checks.on(TWO);
        CHECKS.due("6 count(3)", 2, x.count(3));
        CHECKS.due("6 count(1)", 3, x.count(1));
        CHECKS.due("6 count(4)", DebtFerry.OUTSIDE, x.count(4));
        CHECKS.due("6 count(0)", DebtFerry.OUTSIDE, x.count(0));
        CHECKS.due("6 TIMES", 1, x.many(2));
        CHECKS.due("6 ROOM stays", 1, x.many(1));
        CHECKS.due("6 debt(0, 3) follows", 3, x.debt(0, 3));
        CHECKS.due("7 build(3)", 1, x.build(3));
        CHECKS.due("7 build(2)", 3, x.build(2));
        CHECKS.due("7 build(4)", DebtFerry.OUTSIDE, x.build(4));
        CHECKS.due("7 build(0)", DebtFerry.OUTSIDE, x.build(0));
        CHECKS.due("7 ROOM", 2, x.many(1));
        CHECKS.due("7 TIMES stay", 1, x.many(2));
    }
}
