import java.lang.reflect.Array;
import java.math.BigInteger;
import java.util.ArrayList;
import java.util.List;
import java.util.TreeMap;
import java.util.regex.Matcher;
import java.util.regex.Pattern;

/**
 * The document written down a second time, slowly and in other ways: real arrays with the machine's own
 * faults, real subclasses, a regular expression for the TEXT, and searches through everything.
 */
final class FerryModel {
    static final long LOST = Long.MIN_VALUE;
    private static final Pattern TEXT = Pattern.compile(pattern());

    /** A refusal or a fault on its way out. */
    private static final class Answer extends RuntimeException {
        private static final long serialVersionUID = 1L;
        final int value;

        Answer(int value) {
            super(null, null, false, false);
            this.value = value;
        }
    }

    private interface Hailed {
        int number();

        void leave(int mark);

        default int hailed() {
            leave(4);
            return number();
        }
    }

    private class Rider implements Hailed {
        final int number;
        final boolean lame;
        int[] notes;

        Rider(int number, boolean lame, int[] notes) {
            this.number = number;
            this.lame = lame;
            this.notes = notes;
        }

        @Override
        public int number() {
            return number;
        }

        @Override
        public void leave(int mark) {
            trace = trace * 31 + mark;
        }

        int sum() {
            int s = 0;
            for (int v : notes) {
                s += v;
            }
            return s;
        }

        final int weighed(List<Integer> load) {
            int s = sum();
            for (int q : load) {
                s += (times - 1) * notes[q];
            }
            return s;
        }

        int debt(List<Integer> load) {
            return weighed(load);
        }

        final int ridersBody() {
            leave(1);
            return sum();
        }

        int telling() {
            return ridersBody();
        }
    }

    private class Friend extends Rider {
        Friend(int number, boolean lame, int[] notes) {
            super(number, lame, notes);
        }

        @Override
        int debt(List<Integer> load) {
            int w = weighed(load);
            return w == 0 ? 0 : w - 1;
        }

        @Override
        int telling() {
            leave(2);
            return super.telling() + 100;
        }
    }

    private final class Banker extends Friend {
        Banker(int number, boolean lame, int[] notes) {
            super(number, lame, notes);
        }

        @Override
        int debt(List<Integer> load) {
            return weighed(load) >> 1;
        }

        @Override
        int telling() {
            leave(3);
            int first = super.telling();
            return first + ridersBody();
        }

        @Override
        public int hailed() {
            leave(5);
            return 40;
        }
    }

    private final Object[] sheets = new Object[4];
    private List<Rider> people = new ArrayList<>();
    private final List<int[]> readings = new ArrayList<>();
    private int room;
    private int times;
    private int trace;
    private int fault;

    private static String pattern() {
        StringBuilder all = new StringBuilder();
        for (int n = 2; n <= 5; n++) {
            all.append(n == 2 ? "" : "|").append("o[1-3][1-3]").append(n);
            for (int p = 0; p < n; p++) {
                all.append(",[rfb][01]");
                for (int q = 0; q < n; q++) {
                    all.append(p == q ? "0" : "[0-9]");
                }
            }
        }
        return all.toString();
    }

    // ---- how a call is answered

    private static void refuse(boolean isSo, int value) {
        if (isSo) {
            throw new Answer(value);
        }
    }

    private Rider person(int p) {
        refuse(p < 0 || p >= people.size(), -1);
        return people.get(p);
    }

    private void pair(int a, int b) {
        person(a);
        person(b);
        refuse(a == b, -1);
    }

    private void there() {
        refuse(people.isEmpty(), -3);
    }

    private List<Integer> load(int set) {
        refuse(set < 0 || Integer.toBinaryString(set).length() > Math.max(1, people.size()), -2);
        return members(set);
    }

    private static List<Integer> members(int set) {
        List<Integer> all = new ArrayList<>();
        for (int k = 0; k < 5; k++) {
            if ((set & 1 << k) != 0) {
                all.add(k);
            }
        }
        return all;
    }

    private void sheetThere(int k) {
        refuse(k < 0 || k > 3, -1);
    }

    private static void lane(int lane) {
        refuse(lane < 0 || lane > 2, -2);
    }

    private static Object as(Object row, int lane) {
        if (lane == 0) {
            return (byte[]) row;
        }
        return lane == 1 ? (Object) (short[]) row : (Object) (int[]) row;
    }

    /** The cells that a call takes, with the machine's own faults. */
    private int[] taken(int k, int lane, int i, int n) {
        Object row = as(sheets[k], lane);
        int length = Array.getLength(row);
        // No row has more than 60 cells, so more of them run into its end ahead of this one's.
        int[] out = new int[Math.min(n, 60)];
        if (i < 0 || i > length) {
            throw new IndexOutOfBoundsException();
        }
        for (int j = 0; j < n; j++) {
            out[j] = Array.getInt(row, i + j);
        }
        return out;
    }

    private int faultOf(RuntimeException e) {
        if (e instanceof NullPointerException) {
            return 1;
        }
        if (e instanceof ClassCastException || e instanceof ArrayStoreException) {
            return 2;
        }
        if (e instanceof IndexOutOfBoundsException) {
            return 3;
        }
        if (e instanceof NegativeArraySizeException) {
            return 4;
        }
        throw e;
    }

    /** Calls by name: only so can one place turn refusals and faults into answers. */
    long call(String name, int... a) {
        boolean isLong = name.equals("odds") || name.equals("cell");
        boolean namesFaults = List.of("river", "loads", "sheet", "put", "cell", "copy", "as").contains(name);
        if (namesFaults) {
            fault = 0;
        }
        try {
            return answer(name, a);
        } catch (Answer refused) {
            return isLong ? LOST : refused.value;
        } catch (RuntimeException e) {
            fault = faultOf(e);
            return isLong ? LOST : -10 - fault;
        }
    }

    private long answer(String name, int[] a) {
        switch (name) {
            case "river": return river(a[0], a[1], a[2], a[3]);
            case "ofPerson": return ofPerson(a[0], a[1]);
            case "owes": person(a[1]); return person(a[0]).notes[a[1]];
            case "lend": return lend(a[0], a[1], a[2]);
            case "count": return count(a[0]);
            case "build": return build(a[0]);
            case "debt": return debt(a[0], a[1]);
            case "pullers": there(); load(a[0]); return pulling(a[0]);
            case "fair": there(); load(a[0]); return isFair(a[0]) ? 1 : 0;
            case "loads": return loads(a[0], a[1], a[2], a[3], a[4]);
            case "cross": return cross(a[0]);
            case "loan": return loan(a[0], a[1], a[2]);
            case "forgave": return forgave(a[0]);
            case "reading": return reading(a[0], a[1]);
            case "back": return back(a[0]);
            case "notes": return notes(a[0], a[1]);
            case "kinds": return kinds(a[0]);
            case "often": return often();
            case "odds": return odds(a[0], a[1], a[2]);
            case "sheet": return sheet(a[0], a[1], a[2]);
            case "lose": return lose(a[0]);
            case "put": return put(a[0], a[1], a[2]);
            case "cell": sheetThere(a[0]); lane(a[2]); return Array.getInt(as(sheets[a[0]], a[2]), a[1]);
            case "copy": return copy(a[0], a[1], a[2], a[3], a[4]);
            case "tell": return person(a[0]).telling();
            case "hail": return person(a[0]).hailed();
            case "as": return asKind(a[0], a[1]);
            case "trace": return trace;
            case "fault": return fault;
            case "many": return many(a[0]);
            default: throw new IllegalStateException(name);
        }
    }

    // ---- the calls

    private int river(int k, int lane, int i, int n) {
        sheetThere(k);
        lane(lane);
        int[] codes = taken(k, lane, i, n);
        StringBuilder text = new StringBuilder();
        for (int code : codes) {
            text.append(code > 0 && code < 128 ? (char) code : '?');
        }
        for (int length = 1; length <= n; length++) {
            Matcher m = TEXT.matcher(text.substring(0, length));
            if (!m.matches() && !m.hitEnd()) {
                return -100 - (length - 1);
            }
        }
        if (!TEXT.matcher(text).matches()) {
            return -100 - n;
        }
        String[] parts = text.toString().split(",");
        room = parts[0].charAt(1) - '0';
        times = parts[0].charAt(2) - '0';
        people = new ArrayList<>();
        for (int p = 1; p < parts.length; p++) {
            int[] notes = parts[p].substring(2).chars().map(c -> c - '0').toArray();
            people.add(make("rfb".indexOf(parts[p].charAt(0)), p - 1, parts[p].charAt(1) == '1', notes));
        }
        readings.clear();
        return people.size();
    }

    private Rider make(int kind, int number, boolean lame, int[] notes) {
        if (kind == 0) {
            return new Rider(number, lame, notes);
        }
        return kind == 1 ? new Friend(number, lame, notes) : new Banker(number, lame, notes);
    }

    private static int kindOf(Rider r) {
        return r instanceof Banker ? 2 : r instanceof Friend ? 1 : 0;
    }

    private int ofPerson(int p, int what) {
        Rider r = person(p);
        refuse(what < 0 || what > 2, -2);
        return new int[] {kindOf(r), r.lame ? 1 : 0, r.sum()}[what];
    }

    private int lend(int a, int b, int v) {
        pair(a, b);
        refuse(v < 0 || v > 9, -2);
        int was = people.get(a).notes[b];
        people.get(a).notes[b] = v;
        return was;
    }

    private int count(int v) {
        refuse(v < 1 || v > 3, -2);
        there();
        int was = times;
        times = v;
        return was;
    }

    private int build(int v) {
        refuse(v < 1 || v > 3, -2);
        there();
        int was = room;
        room = v;
        return was;
    }

    private int debt(int p, int set) {
        Rider r = person(p);
        List<Integer> load = load(set);
        refuse(!load.contains(p), -3);
        return r.debt(load);
    }

    private int pulling(int set) {
        TreeMap<Integer, Integer> byDebt = new TreeMap<>();
        for (int p : members(set)) {
            byDebt.merge(people.get(p).debt(members(set)), 1 << p, Integer::sum);
        }
        return byDebt.isEmpty() || byDebt.lastKey() == 0 ? 0 : byDebt.lastEntry().getValue();
    }

    private boolean isFair(int set) {
        List<Integer> pulling = members(pulling(set));
        return set != 0 && members(set).size() <= room && pulling.size() == 1 && !people.get(pulling.get(0)).lame;
    }

    private int loads(int k, int lane, int i, int n, int what) {
        sheetThere(k);
        lane(lane);
        refuse(n < 0 || n > 20, -2);
        refuse(!List.of(0, 1, 2, 3, 4, 10, 11, 12, 13, 14).contains(what), -2);
        int[] row = taken(k, lane, i, n);
        there();
        for (int set : row) {
            load(set);
        }
        List<Integer> crossed = new ArrayList<>();
        int[] told = new int[15];
        for (int at = 0; at < n; at++) {
            List<Integer> load = members(row[at]);
            boolean isWrong = load.isEmpty() || load.size() > room;
            for (int p : load) {
                isWrong |= crossed.contains(p);
            }
            if (isWrong) {
                return what == 1 ? at : -100 - at;
            }
            crossed.addAll(load);
            List<Integer> pulling = members(pulling(row[at]));
            told[0] += isFair(row[at]) ? 1 : 0;
            told[3] += pulling.size() > 1 ? 1 : 0;
            told[4] += pulling.isEmpty() ? 1 : 0;
            for (int p : pulling) {
                told[10 + p]++;
            }
        }
        told[1] = -9;
        for (int p : crossed) {
            told[2] += 1 << p;
        }
        return what - 10 >= people.size() ? -9 : told[what];
    }

    private void rows(List<Integer> row, int left, List<List<Integer>> found) {
        if (left == 0) {
            found.add(new ArrayList<>(row));
        }
        for (int set = 1; set <= left; set++) {
            if ((set | left) == left && isFair(set)) {
                row.add(set);
                rows(row, left - set, found);
                row.remove(row.size() - 1);
            }
        }
    }

    private int cross(int k) {
        there();
        refuse(k < -1 || k > 4, -2);
        List<List<Integer>> found = new ArrayList<>();
        rows(new ArrayList<>(), (1 << people.size()) - 1, found);
        if (found.isEmpty()) {
            return -9;
        }
        // The rows are found in the order of rows of sets, and a sort by length keeps it.
        found.sort((x, y) -> Integer.compare(x.size(), y.size()));
        List<Integer> best = found.get(0);
        return k == -1 ? best.size() : k < best.size() ? best.get(k) : -9;
    }

    private int loan(int p, int set, int what) {
        Rider r = person(p);
        List<Integer> load = load(set);
        refuse(what < 0 || what > 1, -2);
        refuse(!load.contains(p), -3);
        if (pulling(set) == 1 << p) {
            return what == 0 ? 0 : -9;
        }
        TreeMap<Integer, Integer> ways = new TreeMap<>();
        for (int to = people.size() - 1; to >= 0; to--) {
            int was = r.notes[to];
            for (int v = was + 1; v <= 9 && to != p; v++) {
                r.notes[to] = v;
                if (pulling(set) == 1 << p) {
                    ways.put(v - was, to);
                }
            }
            r.notes[to] = was;
        }
        if (ways.isEmpty()) {
            return -9;
        }
        return what == 0 ? ways.firstKey() : ways.firstEntry().getValue();
    }

    private int forgave(int set) {
        there();
        load(set);
        TreeMap<Integer, Integer> ways = new TreeMap<>();
        for (int part = 31; part >= 0; part--) {
            if ((part | set) != set) {
                continue;
            }
            List<int[]> kept = new ArrayList<>();
            for (Rider r : people) {
                kept.add(r.notes);
                r.notes = r.notes.clone();
                for (int to : members(part)) {
                    r.notes[to] = 0;
                }
            }
            if (pulling(set) == 0) {
                ways.put(members(part).size(), part);
            }
            for (Rider r : people) {
                r.notes = kept.get(r.number);
            }
        }
        return ways.isEmpty() ? -9 : ways.firstEntry().getValue();
    }

    private int reading(int set, int pulled) {
        there();
        List<Integer> load = load(set);
        refuse(pulled < 0 || !load.containsAll(members(pulled)) || pulled > 31, -2);
        refuse(readings.size() == 8, -4);
        readings.add(new int[] {set, pulled});
        return readings.size() - 1;
    }

    private int back(int k) {
        refuse(k < 0 || k > readings.size(), -2);
        for (int j = 0; j < k; j++) {
            readings.remove(readings.size() - 1);
        }
        return readings.size();
    }

    private boolean isSo() {
        return readings.stream().allMatch(r -> pulling(r[0]) == r[1]);
    }

    private int notes(int a, int b) {
        pair(a, b);
        int[] row = people.get(a).notes;
        int was = row[b];
        int fit = 0;
        for (row[b] = 0; row[b] <= 9; row[b]++) {
            fit += isSo() ? 1 << row[b] : 0;
        }
        row[b] = was;
        return fit;
    }

    private int kinds(int p) {
        Rider r = person(p);
        int fit = 0;
        for (int kind = 0; kind <= 2; kind++) {
            people.set(p, make(kind, p, r.lame, r.notes));
            fit += isSo() ? 1 << kind : 0;
        }
        people.set(p, r);
        return fit;
    }

    private int often() {
        there();
        int was = times;
        int fit = 0;
        for (times = 1; times <= 3; times++) {
            fit += isSo() ? 1 << times : 0;
        }
        times = was;
        return fit;
    }

    private long odds(int p, int set, int which) {
        person(p);
        List<Integer> load = load(set);
        refuse(which < 0 || which > 1, -2);
        refuse(!load.contains(p), -3);
        BigInteger upper = BigInteger.ZERO;
        int all = 1 << people.size();
        for (int wet = 0; wet < all; wet++) {
            List<int[]> kept = new ArrayList<>();
            for (Rider r : people) {
                kept.add(r.notes);
                r.notes = members(wet).contains(r.number) ? new int[r.notes.length] : r.notes;
            }
            upper = members(pulling(set)).contains(p) ? upper.add(BigInteger.ONE) : upper;
            for (Rider r : people) {
                r.notes = kept.get(r.number);
            }
        }
        BigInteger lower = BigInteger.valueOf(all);
        BigInteger common = upper.gcd(lower);
        return (which == 0 ? upper : lower).divide(common).longValueExact();
    }

    private int sheet(int k, int lane, int n) {
        sheetThere(k);
        lane(lane);
        refuse(n > 60, -2);
        sheets[k] = lane == 0 ? new byte[n] : lane == 1 ? new short[n] : (Object) new int[n];
        return 1;
    }

    private int lose(int k) {
        sheetThere(k);
        int had = sheets[k] == null ? 0 : 1;
        sheets[k] = null;
        return had;
    }

    private int put(int k, int i, int v) {
        sheetThere(k);
        if (sheets[k] instanceof byte[] bytes) {
            bytes[i] = (byte) v;
        } else if (sheets[k] instanceof short[] shorts) {
            shorts[i] = (short) v;
        } else {
            ((int[]) sheets[k])[i] = v;
        }
        return 1;
    }

    private int copy(int k, int i, int other, int j, int n) {
        sheetThere(k);
        sheetThere(other);
        System.arraycopy(sheets[k], i, sheets[other], j, n);
        return n;
    }

    private int asKind(int p, int kind) {
        Rider r = person(p);
        refuse(kind < 0 || kind > 2, -2);
        List<Class<? extends Rider>> kinds = List.of(Rider.class, Friend.class, Banker.class);
        kinds.get(kind).cast(r);
        return 1;
    }

    private int many(int what) {
        refuse(what < 0 || what > 3, -2);
        return new int[] {people.size(), room, times, readings.size()}[what];
    }
}
