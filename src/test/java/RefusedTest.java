import java.util.ArrayList;
import java.util.Arrays;
import java.util.List;

/**
 * Refusals and FAULTS "change nothing (but fault(), of a call that names FAULTS)", nor do the calls that only
 * tell: behind each such call everything that can be seen is as with an object that did not get it.
 */
public final class RefusedTest {
    private static final Checks CHECKS = new Checks("RefusedTest");
    private static final int LEAST = Integer.MIN_VALUE, MOST = Integer.MAX_VALUE;
    /** The FAULT that stands ahead of the call, and is to stay if the call names none. */
    private static final int STOOD = 3;
    private static final String FOUR = "o224,r00213,f11052,b03206,r00410";

    public static void main(String[] args) {
        refusedOnARiver();
        faultsOnARiver();
        textsNotTaken();
        refusedWithoutARiver();
        callsThatOnlyTell();
        CHECKS.close();
    }

    /** Four PEOPLE, two READINGS, a TRACE; SHEETS of each LANE, the last has nothing. */
    private static DebtFerry onARiver() {
        DebtFerry x = Checks.on(FOUR);
        x.reading(3, x.pullers(3));
        x.reading(12, x.pullers(12));
        Checks.row(x, 1, 1, 3, 4, 8);
        Checks.row(x, 2, 2, 70000, -1, 16, 5);
        x.tell(2);
        x.put(1, 99, 0);
        return x;
    }

    private static DebtFerry withoutARiver() {
        DebtFerry x = new DebtFerry();
        Checks.write(x, 0, 0, "o224,r");
        Checks.row(x, 1, 1, 3, 4, 8);
        Checks.row(x, 2, 2, 70000, -1, 16, 5);
        x.put(1, 99, 0);
        return x;
    }

    private static DebtFerry made(boolean withRiver) {
        return withRiver ? onARiver() : withoutARiver();
    }

    /** All that can be seen of an object, but for fault(). */
    private static List<Long> seen(DebtFerry x) {
        List<Long> all = new ArrayList<>();
        all.add((long) x.trace());
        for (int k = 0; k < 4; k++) {
            all.add((long) x.many(k));
            all.add((long) x.kinds(k));
            for (int j = 0; j < 4; j++) {
                all.add((long) x.ofPerson(k, j));
                all.add((long) x.owes(k, j));
                all.add((long) x.notes(k, j));
            }
        }
        all.add((long) x.often());
        for (int set = 0; set < 16; set++) {
            all.add((long) x.pullers(set));
            all.add((long) x.fair(set));
        }
        for (int k = -1; k < 5; k++) {
            all.add((long) x.cross(k));
        }
        for (int k = 0; k < 4; k++) {
            for (int i = 0; i < 34 && (k == 0 || i < 6); i++) {
                all.add(x.cell(k, i, k % 3));
            }
            all.add((long) x.fault());
        }
        return all;
    }

    private static void changesNothing(boolean withRiver, long want, int fault, String name, int... a) {
        String call = name + Arrays.toString(a) + (withRiver ? "" : ", no RIVER");
        DebtFerry x = made(withRiver);
        CHECKS.due(call, want, Calls.of(x, name, a));
        CHECKS.due(call + ": fault()", fault, x.fault());
        CHECKS.holds(call + " changes nothing", seen(x).equals(seen(made(withRiver))));
    }

    private static void onRiver(long want, int fault, String name, int... a) {
        changesNothing(true, want, fault, name, a);
    }

    private static void refusedOnARiver() {
        for (int p : new int[] {LEAST, -1, 4, MOST}) {
            onRiver(-1, STOOD, "ofPerson", p, 0);
            onRiver(-1, STOOD, "owes", p, 0);
            onRiver(-1, STOOD, "owes", 0, p);
            onRiver(-1, STOOD, "lend", p, 0, 7);
            onRiver(-1, STOOD, "lend", 0, p, 7);
            onRiver(-1, STOOD, "debt", p, 15);
            onRiver(-1, STOOD, "loan", p, 15, 0);
            onRiver(-1, STOOD, "notes", p, 0);
            onRiver(-1, STOOD, "notes", 0, p);
            onRiver(-1, STOOD, "kinds", p);
            onRiver(DebtFerry.LOST, STOOD, "odds", p, 15, 0);
            onRiver(-1, STOOD, "tell", p);
            onRiver(-1, STOOD, "hail", p);
            onRiver(-1, 0, "as", p, 0);
            // 4 is no SHEET, either.
            onRiver(-1, 0, "river", p, 0, 0, 32);
            onRiver(-1, 0, "loads", p, 1, 0, 3, 0);
            onRiver(-1, 0, "sheet", p, 0, 5);
            onRiver(-1, STOOD, "lose", p);
            onRiver(-1, 0, "put", p, 0, 9);
            onRiver(DebtFerry.LOST, 0, "cell", p, 0, 0);
            onRiver(-1, 0, "copy", p, 0, 1, 0, 1);
            onRiver(-1, 0, "copy", 1, 0, p, 0, 1);
        }
        onRiver(-1, STOOD, "lend", 1, 1, 7);
        onRiver(-1, STOOD, "notes", 2, 2);
        for (int v : new int[] {LEAST, -1, 16, MOST}) {
            onRiver(-2, STOOD, "ofPerson", 0, v);
            onRiver(-2, STOOD, "lend", 0, 1, v);
            onRiver(-2, STOOD, "count", v);
            onRiver(-2, STOOD, "build", v);
            onRiver(-2, STOOD, "debt", 0, v);
            onRiver(-2, STOOD, "pullers", v);
            onRiver(-2, STOOD, "fair", v);
            onRiver(-2, STOOD, "cross", v == -1 ? -2 : v);
            onRiver(-2, STOOD, "loan", 0, v, 0);
            onRiver(-2, STOOD, "loan", 0, 1, v);
            onRiver(-2, STOOD, "forgave", v);
            onRiver(-2, STOOD, "reading", v, 0);
            onRiver(-2, STOOD, "reading", 3, v);
            onRiver(-2, STOOD, "back", v);
            onRiver(DebtFerry.LOST, STOOD, "odds", 0, v, 0);
            onRiver(DebtFerry.LOST, STOOD, "odds", 0, 1, v);
            onRiver(-2, STOOD, "many", v);
            onRiver(-2, 0, "as", 2, v);
            onRiver(-2, 0, "river", 0, v, 0, 32);
            onRiver(-2, 0, "loads", 1, v, 0, 3, 0);
            onRiver(-2, 0, "loads", 1, 1, 0, 3, v);
            onRiver(-2, 0, "sheet", 1, v, 5);
            onRiver(DebtFerry.LOST, 0, "cell", 1, 0, v);
        }
        onRiver(-2, 0, "loads", 1, 1, 0, -1, 0);
        onRiver(-2, 0, "loads", 1, 1, 0, 21, 0);
        onRiver(-2, 0, "loads", 2, 2, 1, 1, 0);
        onRiver(-2, 0, "loads", 2, 2, 2, 2, 1);
        onRiver(-2, 0, "sheet", 1, 1, 61);
        onRiver(-3, STOOD, "debt", 0, 14);
        onRiver(-3, STOOD, "loan", 0, 14, 1);
        onRiver(DebtFerry.LOST, STOOD, "odds", 0, 14, 1);
        full();
    }

    private static void full() {
        DebtFerry x = onARiver();
        DebtFerry y = onARiver();
        for (int k = 0; k < 6; k++) {
            x.reading(0, 0);
            y.reading(0, 0);
        }
        CHECKS.due("FULL", -4, x.reading(15, 15));
        CHECKS.due("FULL: fault()", STOOD, x.fault());
        CHECKS.holds("FULL changes nothing", seen(x).equals(seen(y)));
    }

    private static void faultsOnARiver() {
        onRiver(-12, 2, "river", 0, 1, 0, 32);
        onRiver(-11, 1, "river", 3, 0, 0, 32);
        onRiver(-14, 4, "river", 0, 0, 0, -1);
        onRiver(-13, 3, "river", 0, 0, 1, 32);
        onRiver(-13, 3, "river", 0, 0, -1, 0);
        onRiver(-12, 2, "loads", 1, 2, 0, 3, 0);
        onRiver(-11, 1, "loads", 3, 0, 0, 0, 0);
        onRiver(-13, 3, "loads", 1, 1, 1, 3, 0);
        onRiver(-14, 4, "sheet", 1, 0, -1);
        onRiver(-14, 4, "sheet", 3, 2, LEAST);
        onRiver(-11, 1, "put", 3, 0, 9);
        onRiver(-13, 3, "put", 1, 3, 9);
        onRiver(-13, 3, "put", 1, -1, 9);
        onRiver(DebtFerry.LOST, 2, "cell", 1, 0, 0);
        onRiver(DebtFerry.LOST, 1, "cell", 3, 0, 0);
        onRiver(DebtFerry.LOST, 3, "cell", 1, 3, 1);
        onRiver(-11, 1, "copy", 3, 0, 1, 0, 1);
        onRiver(-11, 1, "copy", 1, 0, 3, 0, 1);
        onRiver(-12, 2, "copy", 1, 0, 2, 0, 1);
        onRiver(-13, 3, "copy", 1, 2, 1, 0, 2);
        onRiver(-13, 3, "copy", 1, 0, 1, 2, 2);
        onRiver(-13, 3, "copy", 1, 0, 1, 0, -1);
        onRiver(-12, 2, "as", 0, 1);
        onRiver(-12, 2, "as", 0, 2);
        onRiver(-12, 2, "as", 1, 2);
    }

    /** A TEXT with a FIRST FAULT behind everything else leaves the RIVER that was there. */
    private static void textsNotTaken() {
        for (int n = 0; n < 32; n++) {
            onRiver(-100 - n, 0, "river", 0, 0, 0, n);
        }
        onRiver(-100, 0, "river", 0, 0, 1, 31);
        onRiver(-100, 0, "river", 1, 1, 0, 3);
    }

    private static void refusedWithoutARiver() {
        changesNothing(false, -1, STOOD, "lend", 0, 1, 5);
        changesNothing(false, -3, STOOD, "count", 2);
        changesNothing(false, -3, STOOD, "build", 2);
        changesNothing(false, -3, STOOD, "pullers", 0);
        changesNothing(false, -3, STOOD, "fair", 0);
        changesNothing(false, -3, STOOD, "cross", 0);
        changesNothing(false, -3, STOOD, "forgave", 0);
        changesNothing(false, -3, STOOD, "reading", 0, 0);
        changesNothing(false, -2, STOOD, "back", 1);
        changesNothing(false, -3, STOOD, "often");
        changesNothing(false, -3, 0, "loads", 1, 1, 0, 3, 0);
        changesNothing(false, -1, STOOD, "tell", 0);
        changesNothing(false, -1, STOOD, "hail", 0);
        changesNothing(false, -1, 0, "as", 0, 0);
        changesNothing(false, -106, 0, "river", 0, 0, 0, 6);
        changesNothing(false, -13, 3, "river", 0, 0, 0, 7);
    }

    private static void tells(int fault, String name, int... a) {
        onRiver(Calls.of(onARiver(), name, a), fault, name, a);
    }

    private static void callsThatOnlyTell() {
        for (int p = 0; p < 4; p++) {
            for (int set = 0; set < 16; set++) {
                tells(STOOD, "debt", p, set);
                tells(STOOD, "loan", p, set, 0);
                tells(STOOD, "loan", p, set, 1);
                tells(STOOD, "odds", p, set, 0);
                tells(STOOD, "odds", p, set, 1);
            }
            for (int q = 0; q < 4; q++) {
                tells(STOOD, "ofPerson", p, q);
                tells(STOOD, "owes", p, q);
                tells(STOOD, "notes", p, q);
            }
            tells(STOOD, "kinds", p);
            tells(0, "as", p, 0);
            tells(STOOD, "many", p);
        }
        for (int set = 0; set < 16; set++) {
            tells(STOOD, "pullers", set);
            tells(STOOD, "fair", set);
            tells(STOOD, "forgave", set);
        }
        for (int k = -1; k <= 4; k++) {
            tells(STOOD, "cross", k);
        }
        for (int what : new int[] {0, 1, 2, 3, 4, 10, 11, 12, 13, 14}) {
            tells(0, "loads", 1, 1, 0, 3, what);
        }
        tells(0, "cell", 1, 0, 1);
        tells(STOOD, "often");
        tells(STOOD, "back", 0);
        tells(STOOD, "lose", 3);
        tells(STOOD, "trace");
        tells(STOOD, "fault");
        tells(0, "copy", 1, 3, 1, 0, 0);
    }
}
