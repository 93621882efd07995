import java.util.Arrays;

/** Long fixed runs of calls, each answer held against the model's. */
public final class ModelTest {
    private static final Checks CHECKS = new Checks("ModelTest");
    private static final int RUNS = 3000, CALLS = 500;
    private static final String[] LOADED = {
        "ofPerson", "owes", "lend", "count", "build", "debt", "pullers", "fair", "loads", "loads", "loads", "cross",
        "loan", "loan", "forgave", "reading", "reading", "back", "notes", "notes", "kinds", "often", "odds", "tell",
        "hail", "as", "trace", "fault", "many", "sheet", "lose", "put", "cell", "copy", "river", "fault"
    };

    private final DebtFerry real = new DebtFerry();
    private final FerryModel model = new FerryModel();
    private final int run;
    private long seed;
    private int calls;

    private ModelTest(int run) {
        this.run = run;
        this.seed = run * 7919L + 12345;
    }

    public static void main(String[] args) {
        for (int run = 0; run < RUNS; run++) {
            new ModelTest(run).go();
        }
        CHECKS.close();
    }

    /** 0 .. below n: a row of numbers that is the same on every machine. */
    private int pick(int n) {
        seed = seed * 6364136223846793005L + 1442695040888963407L;
        return (int) ((seed >>> 33) % n);
    }

    private int between(int least, int most) {
        return least + pick(most - least + 1);
    }

    private void go() {
        if (pick(10) > 0) {
            tellRiver();
        }
        while (calls < CALLS) {
            int what = pick(60);
            if (what == 0 && calls < CALLS - 60) {
                tellRiver();
            } else if (what <= 3 && calls < CALLS - 20) {
                tellLoads();
            } else if (what <= 6) {
                readAsItIs();
            } else {
                any(LOADED[pick(LOADED.length)]);
            }
        }
    }

    private void tellRiver() {
        StringBuilder text = new StringBuilder("o");
        int people = between(2, 5);
        int highest = pick(3) == 0 ? 9 : between(1, 4);
        text.append(between(1, 3)).append(between(1, 3)).append(people);
        for (int p = 0; p < people; p++) {
            text.append(',').append("rfb".charAt(pick(3))).append(pick(4) == 0 ? 1 : 0);
            for (int q = 0; q < people; q++) {
                text.append(p == q || pick(3) == 0 ? 0 : pick(highest + 1));
            }
        }
        int spoiled = pick(6);
        if (spoiled == 0) {
            text.setCharAt(pick(text.length()), "0123456789,rfbox".charAt(pick(16)));
        } else if (spoiled == 1) {
            text.setLength(pick(text.length() + 1));
        } else if (spoiled == 2) {
            text.append("0,r".charAt(pick(3)));
        }
        int sheet = pick(4);
        int lane = pick(3);
        int ahead = pick(4) == 0 ? pick(5) : 0;
        same("sheet", sheet, lane, ahead + text.length());
        for (int i = 0; i < text.length(); i++) {
            same("put", sheet, ahead + i, text.charAt(i));
        }
        same("river", sheet, lane, ahead, text.length());
    }

    private void tellLoads() {
        int sheet = pick(4);
        int lane = pick(3);
        int n = between(0, 5);
        int left = 31;
        same("sheet", sheet, lane, n);
        for (int i = 0; i < n; i++) {
            int load = pick(32) & pick(32) & (pick(5) == 0 ? 31 : left);
            left &= ~load;
            same("put", sheet, i, load);
        }
        for (int what : new int[] {0, 1, 2, 3, 4, 10 + pick(5)}) {
            same("loads", sheet, lane, 0, between(0, n), what);
        }
    }

    /** A READING of who pulls now, so that NOTES, KINDS and OFTEN are not always empty. */
    private void readAsItIs() {
        int set = pick(32);
        same("reading", set, Math.max(0, (int) model.call("pullers", set)));
    }

    private void any(String name) {
        int wild = pick(40) == 0 ? new int[] {Integer.MIN_VALUE, Integer.MAX_VALUE, 1 << 16}[pick(3)] : 0;
        int p = between(pick(8) == 0 ? -1 : 0, 5) + wild;
        int q = between(pick(8) == 0 ? -1 : 0, 5) + (pick(2) == 0 ? wild : 0);
        int set = between(pick(8) == 0 ? -1 : 0, pick(6) == 0 ? 33 : 31) | (pick(2) == 0 && p >= 0 && p < 5 ? 1 << p : 0);
        int sheet = between(pick(8) == 0 ? -1 : 0, pick(8) == 0 ? 4 : 3);
        int lane = between(pick(8) == 0 ? -1 : 0, pick(8) == 0 ? 3 : 2);
        int i = between(pick(5) == 0 ? -2 : 0, pick(5) == 0 ? 61 : 4) + wild;
        switch (name) {
            case "ofPerson": same(name, p, between(-1, 3)); break;
            case "owes", "notes": same(name, p, q); break;
            case "lend": same(name, p, q, between(-1, 10)); break;
            case "count", "build": same(name, between(0, 4)); break;
            case "debt": same(name, p, set); break;
            case "pullers", "fair", "forgave": same(name, set); break;
            case "loads": same(name, sheet, lane, i, between(-1, pick(4) == 0 ? 21 : 3), between(-1, 15)); break;
            case "cross": same(name, between(-2, 5)); break;
            case "loan", "odds": same(name, p, set, between(pick(6) == 0 ? -1 : 0, pick(6) == 0 ? 2 : 1)); break;
            case "reading": same(name, set, pick(3) == 0 ? pick(33) - 1 : set & pick(32)); break;
            case "back": same(name, between(-1, 3)); break;
            case "kinds", "tell", "hail": same(name, p); break;
            case "as": same(name, p, between(-1, 3)); break;
            case "often", "trace", "fault": same(name); break;
            case "many": same(name, between(-1, 4)); break;
            case "sheet": same(name, sheet, lane, pick(6) == 0 ? between(-3, 63) : between(0, 6)); break;
            case "lose": same(name, sheet); break;
            case "put": same(name, sheet, i, pick(3) == 0 ? (int) seed : pick(33)); break;
            case "cell": same(name, sheet, i, lane); break;
            case "copy": same(name, sheet, i, pick(2) == 0 ? between(-1, 4) : sheet, between(-1, 5), between(-1, 4) + wild); break;
            case "river": same(name, sheet, lane, i, between(-2, 62)); break;
            default: throw new IllegalStateException(name);
        }
    }

    private void same(String name, int... a) {
        calls++;
        long got = Calls.of(real, name, a);
        CHECKS.due("run " + run + ", call " + calls + ": " + name + Arrays.toString(a), model.call(name, a), got);
    }
}
