import java.util.Arrays;

/** Each edge of each number of a call together with each edge of the others, held against the model. */
public final class GridTest {
    private static final Checks CHECKS = new Checks("GridTest");
    private static final int LEAST = Integer.MIN_VALUE, MOST = Integer.MAX_VALUE;
    /** An object is used for at most 512 calls; some of them make its state. */
    private static final int CALLS = 400;
    private static final String[] RIVERS = {
        "", "o122,r003,f150", "o213,r0090,f1909,b0990", "o335,r009199,f190932,b089019,r134506,f078900"
    };

    private static final int[] PEOPLE = {LEAST, -1, 0, 1, 2, 3, 4, 5, 31, 32, MOST};
    private static final int[] SHEETS = {LEAST, -1, 0, 1, 2, 3, 4, MOST};
    private static final int[] LANES = {LEAST, -1, 0, 1, 2, 3, MOST};
    private static final int[] PLACES = {LEAST, -1, 0, 1, 4, 5, 6, 59, 60, 61, MOST};
    private static final int[] LENGTHS = {LEAST, -1, 0, 1, 4, 5, 6, 19, 20, 21, 59, 60, 61, MOST};
    private static final int[] SMALL = {LEAST, -2, -1, 0, 1, 2, 3, 4, 5, 8, 9, 10, 11, 14, 15, MOST};
    private static final int[] NUMBERS = {LEAST, -32769, -129, -1, 0, 1, 127, 128, 255, 256, 32767, 32768, 65536, MOST};
    private static final int[] SETS = sets();

    private final int river;
    private DebtFerry real;
    private FerryModel model;
    private int calls = CALLS;

    private GridTest(int river) {
        this.river = river;
    }

    private static int[] sets() {
        int[] all = new int[40];
        for (int k = 0; k < 34; k++) {
            all[k] = k;
        }
        int[] wild = {LEAST, LEAST + 1, -1, 63, 64, MOST};
        System.arraycopy(wild, 0, all, 34, 6);
        return all;
    }

    public static void main(String[] args) {
        for (int river = 0; river < RIVERS.length; river++) {
            new GridTest(river).everyCall();
        }
        CHECKS.close();
    }

    private void everyCall() {
        grid("ofPerson", PEOPLE, SMALL);
        grid("owes", PEOPLE, PEOPLE);
        grid("lend", PEOPLE, PEOPLE, SMALL);
        grid("count", SMALL);
        grid("build", SMALL);
        grid("debt", PEOPLE, SETS);
        grid("pullers", SETS);
        grid("fair", SETS);
        grid("cross", SMALL);
        grid("loan", PEOPLE, SETS, new int[] {LEAST, -1, 0, 1, 2, MOST});
        grid("forgave", SETS);
        grid("reading", SETS, SETS);
        grid("back", SMALL);
        grid("notes", PEOPLE, PEOPLE);
        grid("kinds", PEOPLE);
        grid("often");
        grid("odds", PEOPLE, SETS, new int[] {LEAST, -1, 0, 1, 2, MOST});
        grid("tell", PEOPLE);
        grid("hail", PEOPLE);
        grid("as", PEOPLE, SMALL);
        grid("many", SMALL);
        grid("cell", SHEETS, PLACES, LANES);
        grid("put", SHEETS, PLACES, NUMBERS);
        grid("copy", SHEETS, PLACES, SHEETS, PLACES, LENGTHS);
        grid("loads", SHEETS, LANES, PLACES, LENGTHS, SMALL);
        grid("river", SHEETS, LANES, PLACES, LENGTHS);
        grid("sheet", SHEETS, LANES, LENGTHS);
        grid("lose", SHEETS);
    }

    private void grid(String name, int[]... edges) {
        calls = CALLS;
        int[] at = new int[edges.length];
        int[] told = new int[edges.length];
        int open = 0;
        while (open >= 0) {
            for (int k = 0; k < edges.length; k++) {
                told[k] = edges[k][at[k]];
            }
            fresh();
            same(name, told);
            same("fault");
            open = edges.length - 1;
            while (open >= 0 && ++at[open] == edges[open].length) {
                at[open] = 0;
                open--;
            }
        }
    }

    /** A new pair behind so many calls: the RIVER, READINGS, and rows of 5 cells of unlike LANES and of 60. */
    private void fresh() {
        if (calls < CALLS) {
            return;
        }
        real = new DebtFerry();
        model = new FerryModel();
        calls = 0;
        String text = RIVERS[river];
        same("sheet", 0, 0, 60);
        for (int i = 0; i < text.length(); i++) {
            same("put", 0, i, text.charAt(i));
        }
        same("river", 0, 0, 0, text.length());
        same("reading", 3, 2);
        same("reading", 1, 1);
        same("sheet", 0, 0, 60);
        same("sheet", 1, 1, 5);
        same("sheet", 2, 2, 5);
        int[] row = {1, 2, 4, 1, 8};
        for (int i = 0; i < 5; i++) {
            same("put", 0, i, row[i]);
            same("put", 1, i, row[i]);
            same("put", 2, i, 1 << i);
        }
    }

    private void same(String name, int... a) {
        calls++;
        long want = model.call(name, a);
        long got = Calls.of(real, name, a);
        if (want != got) {
            CHECKS.due("river " + river + ": " + name + Arrays.toString(a), want, got);
            return;
        }
        CHECKS.due(name, want, got);
    }
}
