/** A rope ferry that is pulled by whoever aboard owes most; README.md says how it is used. */
public final class DebtFerry {
    public static final int UNKNOWN = -1, OUTSIDE = -2, STATE = -3, FULL = -4, NONE = -9;
    public static final long LOST = Long.MIN_VALUE;

    private static final int NULL_FAULT = 1, CAST_FAULT = 2, INDEX_FAULT = 3, SIZE_FAULT = 4;
    private static final int FAULT_BASE = -10, WRONG_BASE = -100;
    private static final int RIDER = 0, FRIEND = 1, BANKER = 2;
    private static final int BYTES = 0, SHORTS = 1, INTS = 2;
    private static final int SHEETS = 4, MOST_CELLS = 60, MOST_LOADS = 20;
    private static final int MOST_PEOPLE = 5, MOST_READINGS = 8;
    private static final int MOST_ROOM = 3, MOST_TIMES = 3, MOST_NOTE = 9;
    /** Of loads(): "how often PERSON p is one of the PULLERS" is asked by this and p. */
    private static final int PULLS_OF = 10;
    /** How long a TEXT is ahead of the first PERSON, and how long a PERSON is ahead of the NOTES. */
    private static final int TEXT_HEAD = 4, PERSON_HEAD = 3;

    private final Sheet[] sheets;
    private final River ferry;
    private int trace;
    private int fault;

    public DebtFerry() {
        ferry = new River();
        sheets = new Sheet[SHEETS];
        for (int k = 0; k < SHEETS; k++) {
            sheets[k] = new Sheet();
        }
    }

    // ---- 1 the river

    public int river(int sheet, int lane, int i, int n) {
        fault = 0;
        if (!isSheet(sheet)) {
            return UNKNOWN;
        }
        if (!isLane(lane)) {
            return OUTSIDE;
        }
        Sheet from = sheets[sheet];
        int met = from.faultAs(lane);
        if (met == 0 && n < 0) {
            met = SIZE_FAULT;
        }
        if (met == 0 && !from.hasCells(i, n)) {
            met = INDEX_FAULT;
        }
        if (met != 0) {
            return faulted(met);
        }
        int wrong = Text.firstFault(from, i, n);
        if (wrong != NONE) {
            return WRONG_BASE - wrong;
        }
        ferry.takeText(from, i);
        return ferry.people;
    }

    public int ofPerson(int p, int what) {
        if (!ferry.isPerson(p)) {
            return UNKNOWN;
        }
        switch (what) {
            case 0:
                return ferry.kind[p];
            case 1:
                return ferry.lame >> p & 1;
            case 2:
                return ferry.allNotes(p);
            default:
                return OUTSIDE;
        }
    }

    public int owes(int a, int b) {
        if (!ferry.isPerson(a) || !ferry.isPerson(b)) {
            return UNKNOWN;
        }
        return ferry.note[a][b];
    }

    public int lend(int a, int b, int v) {
        if (!ferry.isPair(a, b)) {
            return UNKNOWN;
        }
        if (v < 0 || v > MOST_NOTE) {
            return OUTSIDE;
        }
        int was = ferry.note[a][b];
        ferry.note[a][b] = v;
        return was;
    }

    public int count(int v) {
        if (v < 1 || v > MOST_TIMES) {
            return OUTSIDE;
        }
        if (!ferry.isThere()) {
            return STATE;
        }
        int was = ferry.times;
        ferry.times = v;
        return was;
    }

    public int build(int v) {
        if (v < 1 || v > MOST_ROOM) {
            return OUTSIDE;
        }
        if (!ferry.isThere()) {
            return STATE;
        }
        int was = ferry.room;
        ferry.room = v;
        return was;
    }

    // ---- 2 loads

    public int debt(int p, int set) {
        int refused = refusalOfOneIn(p, set, true);
        if (refused != 0) {
            return refused;
        }
        return ferry.debtIf(p, set, 0);
    }

    public int pullers(int set) {
        int refused = refusalOfLoad(set);
        if (refused != 0) {
            return refused;
        }
        return ferry.pullersOf(set);
    }

    public int fair(int set) {
        int refused = refusalOfLoad(set);
        if (refused != 0) {
            return refused;
        }
        return ferry.isFair(set) ? 1 : 0;
    }

    public int loads(int sheet, int lane, int i, int n, int what) {
        fault = 0;
        if (!isSheet(sheet)) {
            return UNKNOWN;
        }
        if (!isLane(lane) || n < 0 || n > MOST_LOADS || !isLoadsQuestion(what)) {
            return OUTSIDE;
        }
        Sheet from = sheets[sheet];
        int met = from.faultAs(lane);
        if (met == 0 && !from.hasCells(i, n)) {
            met = INDEX_FAULT;
        }
        if (met != 0) {
            return faulted(met);
        }
        if (!ferry.isThere()) {
            return STATE;
        }
        if (!ferry.areLoads(from, i, n)) {
            return OUTSIDE;
        }
        int wrong = ferry.firstWrong(from, i, n);
        if (what == 1) {
            return wrong;
        }
        if (wrong != NONE) {
            return WRONG_BASE - wrong;
        }
        return ofLoads(from, i, n, what);
    }

    // ---- 3 crossings, loans

    public int cross(int k) {
        if (!ferry.isThere()) {
            return STATE;
        }
        if (k < -1 || k >= MOST_PEOPLE) {
            return OUTSIDE;
        }
        ferry.findFewest();
        int length = ferry.fewest[ferry.everybody()];
        if (length == NONE) {
            return NONE;
        }
        if (k == -1) {
            return length;
        }
        return k < length ? ferry.loadOfCross(k) : NONE;
    }

    public int loan(int p, int set, int what) {
        int refused = refusalOfOneIn(p, set, what == 0 || what == 1);
        if (refused != 0) {
            return refused;
        }
        if (ferry.pullersOf(set) == 1 << p) {
            return what == 0 ? 0 : NONE;
        }
        for (int pence = 1; pence <= MOST_NOTE; pence++) {
            int lender = ferry.lenderOf(p, set, pence);
            if (lender != NONE) {
                return what == 0 ? pence : lender;
            }
        }
        return NONE;
    }

    public int forgave(int set) {
        int refused = refusalOfLoad(set);
        if (refused != 0) {
            return refused;
        }
        int best = NONE;
        for (int part = 0; part <= set; part++) {
            boolean isFewer = best == NONE || Integer.bitCount(part) < Integer.bitCount(best);
            if ((part & ~set) == 0 && isFewer && ferry.pullersIf(set, part, 0) == 0) {
                best = part;
            }
        }
        return best;
    }

    // ---- 4 who pulled

    public int reading(int set, int pulled) {
        int refused = refusalOfLoad(set);
        if (refused != 0) {
            return refused;
        }
        if ((pulled & ~set) != 0) {
            return OUTSIDE;
        }
        int number = ferry.readings;
        if (number >= MOST_READINGS) {
            return FULL;
        }
        ferry.readLoad[number] = set;
        ferry.readPulled[number] = pulled;
        ferry.readings = number + 1;
        return number;
    }

    public int back(int k) {
        if (k < 0 || k > ferry.readings) {
            return OUTSIDE;
        }
        ferry.readings -= k;
        return ferry.readings;
    }

    public int notes(int a, int b) {
        if (!ferry.isPair(a, b)) {
            return UNKNOWN;
        }
        return ferry.notesThatFit(a, b);
    }

    public int kinds(int p) {
        if (!ferry.isPerson(p)) {
            return UNKNOWN;
        }
        return ferry.kindsThatFit(p);
    }

    public int often() {
        if (!ferry.isThere()) {
            return STATE;
        }
        return ferry.timesThatFit();
    }

    public long odds(int p, int set, int which) {
        if (refusalOfOneIn(p, set, which == 0 || which == 1) != 0) {
            return LOST;
        }
        int upper = ferry.wetSetsWithPuller(p, set);
        int lower = 1 << ferry.people;
        // The lower number is a power of 2, so halving is all that least terms need.
        for (int k = 0; k < ferry.people; k++) {
            if (upper % 2 == 0) {
                upper /= 2;
                lower /= 2;
            }
        }
        return which == 0 ? upper : lower;
    }

    // ---- 5 sheets, parts

    public int sheet(int k, int lane, int n) {
        fault = 0;
        if (!isSheet(k)) {
            return UNKNOWN;
        }
        if (!isLane(lane) || n > MOST_CELLS) {
            return OUTSIDE;
        }
        if (n < 0) {
            return faulted(SIZE_FAULT);
        }
        sheets[k].startRow(lane, n);
        return 1;
    }

    public int lose(int k) {
        if (!isSheet(k)) {
            return UNKNOWN;
        }
        int had = sheets[k].hasRow ? 1 : 0;
        sheets[k].hasRow = false;
        return had;
    }

    public int put(int k, int i, int v) {
        fault = 0;
        if (!isSheet(k)) {
            return UNKNOWN;
        }
        Sheet to = sheets[k];
        if (!to.hasRow) {
            return faulted(NULL_FAULT);
        }
        if (!to.hasCell(i)) {
            return faulted(INDEX_FAULT);
        }
        to.store(i, v);
        return 1;
    }

    public long cell(int k, int i, int lane) {
        fault = 0;
        if (!isSheet(k) || !isLane(lane)) {
            return LOST;
        }
        Sheet from = sheets[k];
        int met = from.faultAs(lane);
        if (met == 0 && !from.hasCell(i)) {
            met = INDEX_FAULT;
        }
        if (met != 0) {
            fault = met;
            return LOST;
        }
        return from.cells[i];
    }

    public int copy(int k, int i, int other, int j, int n) {
        fault = 0;
        if (!isSheet(k) || !isSheet(other)) {
            return UNKNOWN;
        }
        Sheet from = sheets[k];
        Sheet to = sheets[other];
        if (!from.hasRow || !to.hasRow) {
            return faulted(NULL_FAULT);
        }
        if (from.lane != to.lane) {
            return faulted(CAST_FAULT);
        }
        if (!from.hasCells(i, n) || !to.hasCells(j, n)) {
            return faulted(INDEX_FAULT);
        }
        System.arraycopy(from.cells, i, to.cells, j, n);
        return n;
    }

    public int tell(int p) {
        if (!ferry.isPerson(p)) {
            return UNKNOWN;
        }
        switch (ferry.kind[p]) {
            case BANKER:
                return bankerTells(p);
            case FRIEND:
                return friendTells(p);
            default:
                return riderTells(p);
        }
    }

    public int hail(int p) {
        if (!ferry.isPerson(p)) {
            return UNKNOWN;
        }
        return ferry.kind[p] == BANKER ? bankerIsHailed() : lentHail(p);
    }

    public int as(int p, int kind) {
        fault = 0;
        if (!ferry.isPerson(p)) {
            return UNKNOWN;
        }
        if (kind < RIDER || kind > BANKER) {
            return OUTSIDE;
        }
        // Each kind is all the kinds ahead of it, too.
        return ferry.kind[p] < kind ? faulted(CAST_FAULT) : 1;
    }

    public int trace() {
        return trace;
    }

    public int fault() {
        return fault;
    }

    public int many(int what) {
        switch (what) {
            case 0:
                return ferry.people;
            case 1:
                return ferry.room;
            case 2:
                return ferry.times;
            case 3:
                return ferry.readings;
            default:
                return OUTSIDE;
        }
    }

    // ---- what the calls share

    private static boolean isSheet(int k) {
        return k >= 0 && k < SHEETS;
    }

    private static boolean isLane(int lane) {
        return lane >= BYTES && lane <= INTS;
    }

    private static boolean isLoadsQuestion(int what) {
        return what >= 0 && what <= 4 || what >= PULLS_OF && what < PULLS_OF + MOST_PEOPLE;
    }

    private int faulted(int met) {
        fault = met;
        return FAULT_BASE - met;
    }

    /** The refusal of a call about a LOAD, 0 if it is to be answered. */
    private int refusalOfLoad(int set) {
        if (!ferry.isThere()) {
            return STATE;
        }
        return ferry.isLoad(set) ? 0 : OUTSIDE;
    }

    /**
     * The refusal of a call about a PERSON in a LOAD, 0 if it is to be answered; the caller says
     * whether its further number is as told, because that is OUTSIDE, which goes ahead of STATE.
     */
    private int refusalOfOneIn(int p, int set, boolean isRestAsTold) {
        if (!ferry.isPerson(p)) {
            return UNKNOWN;
        }
        if (!ferry.isLoad(set) || !isRestAsTold) {
            return OUTSIDE;
        }
        return (set >> p & 1) == 1 ? 0 : STATE;
    }

    /** What loads() tells of LOADS without a FIRST WRONG. */
    private int ofLoads(Sheet from, int i, int n, int what) {
        if (what >= PULLS_OF && !ferry.isPerson(what - PULLS_OF)) {
            return NONE;
        }
        int told = 0;
        for (int k = 0; k < n; k++) {
            int load = from.cells[i + k];
            if (what == 2) {
                told |= load;
            } else if (ferry.isSo(load, what)) {
                told++;
            }
        }
        return told;
    }

    private void leaveTrace(int number) {
        trace = 31 * trace + number;
    }

    private int riderTells(int p) {
        leaveTrace(1);
        return ferry.allNotes(p);
    }

    private int friendTells(int p) {
        leaveTrace(2);
        return riderTells(p) + 100;
    }

    private int bankerTells(int p) {
        leaveTrace(3);
        int asFriend = friendTells(p);
        return asFriend + riderTells(p);
    }

    private int lentHail(int p) {
        leaveTrace(4);
        return p;
    }

    private int bankerIsHailed() {
        leaveTrace(5);
        return 40;
    }

    /** A SHEET keeps one row of ints for every LANE, so that a new row makes no new array. */
    private static final class Sheet {
        final int[] cells = new int[MOST_CELLS];
        boolean hasRow;
        int lane;
        int length;

        void startRow(int newLane, int n) {
            hasRow = true;
            lane = newLane;
            length = n;
            for (int i = 0; i < MOST_CELLS; i++) {
                cells[i] = 0;
            }
        }

        /** The fault of taking it as a row of a LANE: CAST ahead of NULL, but nothing is no CAST. */
        int faultAs(int wanted) {
            if (!hasRow) {
                return NULL_FAULT;
            }
            return lane == wanted ? 0 : CAST_FAULT;
        }

        boolean hasCell(int i) {
            return i >= 0 && i < length;
        }

        /** The sum of i and n could wrap, so n is held against what is left behind i. */
        boolean hasCells(int i, int n) {
            return i >= 0 && i <= length && n >= 0 && n <= length - i;
        }

        void store(int i, int v) {
            if (lane == BYTES) {
                cells[i] = (byte) v;
            } else if (lane == SHORTS) {
                cells[i] = (short) v;
            } else {
                cells[i] = v;
            }
        }
    }

    /** How a TEXT of a RIVER is written. */
    private static final class Text {
        /** The FIRST FAULT of n codes from i on, which are there; NONE, if they are a TEXT. */
        static int firstFault(Sheet from, int i, int n) {
            int people = 0;
            // The head's length alone, until the PEOPLE are told: nothing shorter is a TEXT anyhow.
            int length = TEXT_HEAD;
            for (int place = 0; place < n; place++) {
                int code = from.cells[i + place];
                if (place >= length || !goesOn(place, code, people)) {
                    return place;
                }
                if (place == TEXT_HEAD - 1) {
                    people = code - '0';
                    length = TEXT_HEAD + people * (PERSON_HEAD + people);
                }
            }
            return n < length ? n : NONE;
        }

        static boolean goesOn(int place, int code, int people) {
            switch (place) {
                case 0:
                    return code == 'o';
                case 1:
                    return isDigit(code, 1, MOST_ROOM);
                case 2:
                    return isDigit(code, 1, MOST_TIMES);
                case TEXT_HEAD - 1:
                    return isDigit(code, 2, MOST_PEOPLE);
                default:
                    return goesOnInPerson(place - TEXT_HEAD, code, people);
            }
        }

        static boolean goesOnInPerson(int place, int code, int people) {
            int each = PERSON_HEAD + people;
            int person = place / each;
            int at = place % each;
            switch (at) {
                case 0:
                    return code == ',';
                case 1:
                    return kindOf(code) != NONE;
                case 2:
                    return isDigit(code, 0, 1);
                default:
                    return isDigit(code, 0, at - PERSON_HEAD == person ? 0 : MOST_NOTE);
            }
        }

        static boolean isDigit(int code, int least, int most) {
            return code >= '0' + least && code <= '0' + most;
        }

        static int kindOf(int code) {
            switch (code) {
                case 'r':
                    return RIDER;
                case 'f':
                    return FRIEND;
                case 'b':
                    return BANKER;
                default:
                    return NONE;
            }
        }
    }

    /** The RIVER with its PEOPLE and READINGS; no PEOPLE: there is no RIVER. */
    private static final class River {
        int people;
        int room;
        int times;
        /** Who is LAME, as a set. */
        int lame;
        final int[] kind = new int[MOST_PEOPLE];
        final int[][] note = new int[MOST_PEOPLE][MOST_PEOPLE];
        int readings;
        final int[] readLoad = new int[MOST_READINGS];
        final int[] readPulled = new int[MOST_READINGS];
        /** By how many FAIR LOADS just such a set crosses at the fewest, NONE; made by findFewest. */
        final int[] fewest = new int[1 << MOST_PEOPLE];
        final boolean[] fairLoad = new boolean[1 << MOST_PEOPLE];

        boolean isThere() {
            return people > 0;
        }

        boolean isPerson(int p) {
            return p >= 0 && p < people;
        }

        boolean isPair(int a, int b) {
            return isPerson(a) && isPerson(b) && a != b;
        }

        int everybody() {
            return (1 << people) - 1;
        }

        boolean isLoad(int set) {
            return set >= 0 && set <= everybody();
        }

        /** Takes a TEXT that has no FIRST FAULT. */
        void takeText(Sheet from, int i) {
            room = from.cells[i + 1] - '0';
            times = from.cells[i + 2] - '0';
            people = from.cells[i + 3] - '0';
            lame = 0;
            readings = 0;
            int at = i + TEXT_HEAD;
            for (int p = 0; p < people; p++) {
                kind[p] = Text.kindOf(from.cells[at + 1]);
                lame |= (from.cells[at + 2] - '0') << p;
                at += PERSON_HEAD;
                for (int to = 0; to < people; to++) {
                    note[p][to] = from.cells[at + to] - '0';
                }
                at += people;
            }
        }

        int allNotes(int p) {
            int sum = 0;
            for (int to = 0; to < people; to++) {
                sum += note[p][to];
            }
            return sum;
        }

        /** DEBT of one of a LOAD, if nothing is OWED to a set of PEOPLE any more. */
        int debtIf(int p, int load, int forgiving) {
            int sum = 0;
            for (int to = 0; to < people; to++) {
                if ((forgiving >> to & 1) == 0) {
                    sum += (load >> to & 1) == 1 ? times * note[p][to] : note[p][to];
                }
            }
            switch (kind[p]) {
                case BANKER:
                    return sum / 2;
                case FRIEND:
                    return sum > 0 ? sum - 1 : 0;
                default:
                    return sum;
            }
        }

        int pullersOf(int load) {
            return pullersIf(load, 0, 0);
        }

        /** PULLERS, if nothing is OWED to one set of PEOPLE, and nothing by another, the wet. */
        int pullersIf(int load, int forgiving, int wet) {
            int most = 0;
            int pulling = 0;
            int owing = load & ~wet;
            for (int p = 0; p < people; p++) {
                int owed = (owing >> p & 1) == 1 ? debtIf(p, load, forgiving) : 0;
                if (owed > most) {
                    most = owed;
                    pulling = 1 << p;
                } else if (owed > 0 && owed == most) {
                    pulling |= 1 << p;
                }
            }
            return pulling;
        }

        boolean isFair(int load) {
            if (Integer.bitCount(load) > room) {
                return false;
            }
            int pulling = pullersOf(load);
            return Integer.bitCount(pulling) == 1 && (pulling & lame) == 0;
        }

        boolean areLoads(Sheet from, int i, int n) {
            for (int k = 0; k < n; k++) {
                if (!isLoad(from.cells[i + k])) {
                    return false;
                }
            }
            return true;
        }

        int firstWrong(Sheet from, int i, int n) {
            int crossed = 0;
            for (int k = 0; k < n; k++) {
                int load = from.cells[i + k];
                if (load == 0 || Integer.bitCount(load) > room || (load & crossed) != 0) {
                    return k;
                }
                crossed |= load;
            }
            return NONE;
        }

        /** Whether a LOAD is one of those that loads() counts. */
        boolean isSo(int load, int what) {
            switch (what) {
                case 0:
                    return isFair(load);
                case 3:
                    return Integer.bitCount(pullersOf(load)) > 1;
                case 4:
                    return pullersOf(load) == 0;
                default:
                    return (pullersOf(load) >> (what - PULLS_OF) & 1) == 1;
            }
        }

        void findFewest() {
            int all = everybody();
            fewest[0] = 0;
            for (int set = 1; set <= all; set++) {
                fairLoad[set] = isFair(set);
                fewest[set] = NONE;
                for (int load = 1; load <= set; load++) {
                    if (canCrossBy(load, set)) {
                        int so = fewest[set ^ load] + 1;
                        fewest[set] = fewest[set] == NONE ? so : Math.min(fewest[set], so);
                    }
                }
            }
        }

        /** Whether a set can cross with this LOAD as one of its FAIR ones. */
        boolean canCrossBy(int load, int set) {
            return (load & ~set) == 0 && fairLoad[load] && fewest[set ^ load] != NONE;
        }

        /** LOAD k of the first row of sets by which all cross, behind findFewest; it is there. */
        int loadOfCross(int k) {
            int left = everybody();
            int last = 0;
            for (int row = 0; row <= k; row++) {
                last = firstLoadOf(left);
                left ^= last;
            }
            return last;
        }

        int firstLoadOf(int set) {
            for (int load = 1; load <= set; load++) {
                if (canCrossBy(load, set) && fewest[set ^ load] + 1 == fewest[set]) {
                    return load;
                }
            }
            return 0;
        }

        /** The least PERSON to whom a NOTE raised by so many PENCE makes p alone pull; NONE. */
        int lenderOf(int p, int load, int pence) {
            for (int to = 0; to < people; to++) {
                int was = note[p][to];
                if (to != p && was + pence <= MOST_NOTE) {
                    note[p][to] = was + pence;
                    boolean pullsAlone = pullersOf(load) == 1 << p;
                    note[p][to] = was;
                    if (pullsAlone) {
                        return to;
                    }
                }
            }
            return NONE;
        }

        boolean areReadingsSo() {
            for (int k = 0; k < readings; k++) {
                if (pullersOf(readLoad[k]) != readPulled[k]) {
                    return false;
                }
            }
            return true;
        }

        int notesThatFit(int a, int b) {
            int was = note[a][b];
            int fit = 0;
            for (int v = 0; v <= MOST_NOTE; v++) {
                note[a][b] = v;
                fit |= areReadingsSo() ? 1 << v : 0;
            }
            note[a][b] = was;
            return fit;
        }

        int kindsThatFit(int p) {
            int was = kind[p];
            int fit = 0;
            for (int v = RIDER; v <= BANKER; v++) {
                kind[p] = v;
                fit |= areReadingsSo() ? 1 << v : 0;
            }
            kind[p] = was;
            return fit;
        }

        int timesThatFit() {
            int was = times;
            int fit = 0;
            for (int v = 1; v <= MOST_TIMES; v++) {
                times = v;
                fit |= areReadingsSo() ? 1 << v : 0;
            }
            times = was;
            return fit;
        }

        int wetSetsWithPuller(int p, int load) {
            int all = everybody();
            int found = 0;
            for (int wet = 0; wet <= all; wet++) {
                found += pullersIf(load, 0, wet) >> p & 1;
            }
            return found;
        }
    }
}
