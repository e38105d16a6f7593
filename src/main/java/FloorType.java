/** Type on the floor: letters that go back into their boxes. README.md tells how to use it. */
public final class FloorType {
    public static final int UNKNOWN = -1, OUTSIDE = -2, STATE = -3, FULL = -4, NONE = -9;
    public static final long LOST = Long.MIN_VALUE;

    private static final int FINE = 0, NULL = 1, CAST = 2, INDEX = 3, SIZE = 4;
    private static final int PICKING = 0, SURE = 1, DOUBTFUL = 2;
    private static final int SHEETS = 4, LANES = 3, CELLS = 60;
    private static final int MOST_SORTS = 6, MOST_SIGNS = 5, MOST_READINGS = 8, MOST_PASSES = 20;

    private final Sheets sheets = new Sheets();
    private final Page page = new Page();
    private final Text text = new Text();
    private final Walk walk = new Walk();
    private final Search search = new Search();
    /** The PLAN or LINE of a call, kept here so that no call makes a row. */
    private final int[] row = new int[CELLS];
    private int trace;
    private int fault;

    public FloorType() {
    }

    // ---- 1 the floor

    public int floor(int sheet, int lane, int i, int n) {
        fault = FINE;
        if (!Sheets.isSheet(sheet)) {
            return UNKNOWN;
        }
        if (!Sheets.isLane(lane)) {
            return OUTSIDE;
        }
        int met = sheets.faultAsRow(sheet, lane);
        if (met == FINE && n < 0) {
            met = SIZE;
        }
        if (met == FINE) {
            met = sheets.faultOfSpan(sheet, i, n);
        }
        if (met != FINE) {
            return failed(met);
        }
        sheets.take(sheet, i, n, text.codes);
        int place = text.firstFault(n);
        if (place != NONE) {
            return -100 - place;
        }
        page.fill(text);
        return page.sorts;
    }

    public int ofSort(int s, int what) {
        if (!page.isSort(s)) {
            return UNKNOWN;
        }
        switch (what) {
            case 0: return page.kind[s];
            case 1: return page.count[s];
            case 2: return page.seconds[s];
            case 3: return page.alike[s];
            case 4: return look(page.kind[s], page.seconds[s]);
            default: return OUTSIDE;
        }
    }

    public int ofSign(int k) {
        return page.isSign(k) ? page.having[k] : UNKNOWN;
    }

    public int lay(int s, int v) {
        if (!page.isSort(s)) {
            return UNKNOWN;
        }
        if (v < 0 || v > 9) {
            return OUTSIDE;
        }
        int before = page.count[s];
        page.count[s] = v;
        return before;
    }

    public int sign(int k, int set) {
        if (!page.isSign(k)) {
            return UNKNOWN;
        }
        if (set < 0 || set > 63) {
            return OUTSIDE;
        }
        int before = page.having[k];
        page.having[k] = set & page.everySort();
        return before;
    }

    // ---- 2 plans

    public int plan(int sheet, int lane, int i, int n, int what) {
        fault = FINE;
        if (Sheets.isSheet(sheet) && !isOfPlans(what)) {
            return OUTSIDE;
        }
        int no = refusalOfRow(sheet, lane, n, MOST_PASSES);
        if (no == FINE) {
            no = takeNumbers(sheet, lane, i, n, page.signs);
        }
        if (no != FINE) {
            return no;
        }
        walk.go(page, row, n);
        switch (what) {
            case 0: return walk.seconds;
            case 1: return walk.idle;
            case 2: return page.heaps(walk.used);
            case 3: return page.everySort() & ~page.waiting(walk.used);
            default: return what < 20 ? readyBehind(what - 10) : leastBeside(what - 20);
        }
    }

    public int line(int sheet, int lane, int i, int n) {
        fault = FINE;
        int no = refusalOfRow(sheet, lane, n, CELLS);
        if (no == FINE) {
            no = takeNumbers(sheet, lane, i, n, page.sorts);
        }
        return no == FINE ? page.firstShort(row, n) : no;
    }

    public int soon(int set, int sheet, int lane, int i, int n) {
        fault = FINE;
        int no = refusalOfRow(sheet, lane, n, MOST_PASSES);
        if (no == FINE && !page.isSet(set)) {
            no = OUTSIDE;
        }
        if (no == FINE) {
            no = takeNumbers(sheet, lane, i, n, page.signs);
        }
        if (no != FINE) {
            return no;
        }
        walk.go(page, row, n);
        return walk.allReadyBehind(set);
    }

    // ---- 3 orders, trees

    public int order(int k) {
        if (k < -1 || k >= MOST_SIGNS) {
            return OUTSIDE;
        }
        if (!page.isThere()) {
            return STATE;
        }
        search.weighOrders(page);
        return k < 0 ? search.fewestByOrder() : search.signOfOrder(page, k);
    }

    public int tree(int what) {
        if (what < 0 || what > 1) {
            return OUTSIDE;
        }
        if (!page.isThere()) {
            return STATE;
        }
        search.weighTrees(page);
        return what == 0 ? search.fewestByTree(page) : search.firstOfTree(page);
    }

    // ---- 4 wrong boxes, how long passes took

    public long odds(int s, int v, int which) {
        if (!page.isSort(s) || v < 0 || v > 99 || which < 0 || which > 1) {
            return LOST;
        }
        int letters = page.lettersAlike(s);
        long upper = waysOfAtLeast(letters, v);
        long lower = 1L << letters;
        for (int halved = 0; halved < letters && (upper & 1) == 0; halved++) {
            upper >>= 1;
            lower >>= 1;
        }
        return which == 0 ? upper : lower;
    }

    public int reading(int set, int v) {
        if (!page.isThere()) {
            return STATE;
        }
        if (!page.isSet(set) || v < 0 || v > 9999) {
            return OUTSIDE;
        }
        return page.readings < MOST_READINGS ? page.note(set, v) : FULL;
    }

    public int back(int k) {
        if (k < 0 || k > page.readings) {
            return OUTSIDE;
        }
        page.readings -= k;
        return page.readings;
    }

    public int counts(int s) {
        if (!page.isSort(s)) {
            return UNKNOWN;
        }
        int found = 0;
        for (int count = 0; count <= 9; count++) {
            if (page.readingsHold(s, count * look(page.kind[s], page.seconds[s]))) {
                found |= 1 << count;
            }
        }
        return found;
    }

    public int kinds(int s) {
        if (!page.isSort(s)) {
            return UNKNOWN;
        }
        int found = 0;
        for (int kind = PICKING; kind <= DOUBTFUL; kind++) {
            if (page.readingsHold(s, page.count[s] * look(kind, page.seconds[s]))) {
                found |= 1 << kind;
            }
        }
        return found;
    }

    public int speeds(int s) {
        if (!page.isSort(s)) {
            return UNKNOWN;
        }
        int found = 0;
        for (int seconds = 1; seconds <= 9; seconds++) {
            if (page.readingsHold(s, page.count[s] * look(page.kind[s], seconds))) {
                found |= 1 << seconds;
            }
        }
        return found;
    }

    // ---- 5 sheets, parts

    public int sheet(int k, int lane, int n) {
        fault = FINE;
        if (!Sheets.isSheet(k)) {
            return UNKNOWN;
        }
        if (!Sheets.isLane(lane) || n > CELLS) {
            return OUTSIDE;
        }
        if (n < 0) {
            return failed(SIZE);
        }
        sheets.renew(k, lane, n);
        return 1;
    }

    public int lose(int k) {
        if (!Sheets.isSheet(k)) {
            return UNKNOWN;
        }
        return sheets.clear(k) ? 1 : 0;
    }

    public int put(int k, int i, int v) {
        fault = FINE;
        if (!Sheets.isSheet(k)) {
            return UNKNOWN;
        }
        int met = sheets.faultOfCell(k, i);
        if (met != FINE) {
            return failed(met);
        }
        sheets.write(k, i, v);
        return 1;
    }

    public long cell(int k, int i, int lane) {
        fault = FINE;
        if (!Sheets.isSheet(k) || !Sheets.isLane(lane)) {
            return LOST;
        }
        fault = sheets.faultAsRow(k, lane);
        if (fault == FINE) {
            fault = sheets.faultOfCell(k, i);
        }
        return fault == FINE ? sheets.read(k, i) : LOST;
    }

    public int copy(int k, int i, int other, int j, int n) {
        fault = FINE;
        if (!Sheets.isSheet(k) || !Sheets.isSheet(other)) {
            return UNKNOWN;
        }
        int met = sheets.faultOfPair(k, other);
        if (met == FINE) {
            met = sheets.faultOfSpan(k, i, n);
        }
        if (met == FINE) {
            met = sheets.faultOfSpan(other, j, n);
        }
        if (met != FINE) {
            return failed(met);
        }
        sheets.move(k, i, other, j, n);
        return n;
    }

    public int tell(int s) {
        if (!page.isSort(s)) {
            return UNKNOWN;
        }
        switch (page.kind[s]) {
            case DOUBTFUL: return tellDoubtful(s);
            case SURE: return tellSure(s);
            default: return tellPicking(s);
        }
    }

    public int drop(int s) {
        if (!page.isSort(s)) {
            return UNKNOWN;
        }
        return page.kind[s] == DOUBTFUL ? dropByOwn() : dropByLent(s);
    }

    public int as(int s, int kind) {
        fault = FINE;
        if (!page.isSort(s)) {
            return UNKNOWN;
        }
        if (kind < PICKING || kind > DOUBTFUL) {
            return OUTSIDE;
        }
        // a kind is also all that stand ahead of it: a DOUBTFUL is a SURE, a SURE a PICKING
        return page.kind[s] >= kind ? 1 : failed(CAST);
    }

    public int trace() {
        return trace;
    }

    public int fault() {
        return fault;
    }

    public int many(int what) {
        switch (what) {
            case 0: return page.sorts;
            case 1: return page.signs;
            case 2: return page.letters();
            case 3: return page.readings;
            default: return OUTSIDE;
        }
    }

    // ---- what the calls share

    private int failed(int met) {
        fault = met;
        return -10 - met;
    }

    /** What refuses a PLAN or a LINE ahead of all faults. */
    private int refusalOfRow(int sheet, int lane, int n, int most) {
        if (!Sheets.isSheet(sheet)) {
            return UNKNOWN;
        }
        if (!Sheets.isLane(lane) || n < 0 || n > most) {
            return OUTSIDE;
        }
        return page.isThere() ? FINE : STATE;
    }

    /** Takes n cells as numbers 0 .. below - 1 into the row; otherwise what the call answers. */
    private int takeNumbers(int sheet, int lane, int i, int n, int below) {
        int met = sheets.faultAsRow(sheet, lane);
        if (met == FINE) {
            met = sheets.faultOfSpan(sheet, i, n);
        }
        if (met != FINE) {
            return failed(met);
        }
        sheets.take(sheet, i, n, row);
        for (int at = 0; at < n; at++) {
            if (row[at] < 0 || row[at] >= below) {
                return UNKNOWN;
            }
        }
        return FINE;
    }

    private static boolean isOfPlans(int what) {
        return what >= 0 && what <= 3 || what >= 10 && what <= 15 || what >= 20 && what <= 25;
    }

    private int readyBehind(int s) {
        return page.isSort(s) ? walk.behind[s] : NONE;
    }

    private int leastBeside(int s) {
        return page.isSort(s) ? least(page.heapOf(s, walk.used)) : NONE;
    }

    /** The least number of a set, NONE of an empty one. */
    private static int least(int set) {
        for (int number = 0; number < MOST_SORTS; number++) {
            if (holds(set, number)) {
                return number;
            }
        }
        return NONE;
    }

    private static boolean holds(int set, int number) {
        return (set >> number & 1) != 0;
    }

    private static int look(int kind, int seconds) {
        switch (kind) {
            case DOUBTFUL: return 2 * (seconds + 1);
            case SURE: return seconds + 1;
            default: return seconds;
        }
    }

    /** In how many ways v letters or more of all go wrong, each either so or not. */
    private static long waysOfAtLeast(int letters, int v) {
        long ways = 1;
        long sum = 0;
        for (int wrong = 0; wrong <= letters; wrong++) {
            if (wrong >= v) {
                sum += ways;
            }
            ways = ways * (letters - wrong) / (wrong + 1);
        }
        return sum;
    }

    private void leave(int number) {
        trace = 31 * trace + number;
    }

    private int tellPicking(int s) {
        leave(1);
        return page.seconds[s];
    }

    private int tellSure(int s) {
        leave(2);
        return tellPicking(s) + 100;
    }

    private int tellDoubtful(int s) {
        leave(3);
        return tellSure(s) + tellPicking(s);
    }

    private int dropByLent(int s) {
        leave(4);
        return s;
    }

    private int dropByOwn() {
        leave(5);
        return 70;
    }

    /** The SHEETS, all in one row of cells, so that a new row makes no array. */
    private static final class Sheets {
        private final int[] cells = new int[SHEETS * CELLS];
        private final int[] lanes = new int[SHEETS];
        /** How many cells; NONE where the SHEET has nothing. */
        private final int[] sizes = new int[SHEETS];

        Sheets() {
            for (int k = 0; k < SHEETS; k++) {
                sizes[k] = NONE;
            }
        }

        static boolean isSheet(int k) {
            return k >= 0 && k < SHEETS;
        }

        static boolean isLane(int lane) {
            return lane >= 0 && lane < LANES;
        }

        boolean isEmpty(int k) {
            return sizes[k] == NONE;
        }

        int faultAsRow(int k, int lane) {
            if (isEmpty(k)) {
                return NULL;
            }
            return lanes[k] == lane ? FINE : CAST;
        }

        int faultOfPair(int k, int other) {
            if (isEmpty(k) || isEmpty(other)) {
                return NULL;
            }
            return lanes[k] == lanes[other] ? FINE : CAST;
        }

        int faultOfCell(int k, int i) {
            if (isEmpty(k)) {
                return NULL;
            }
            return i >= 0 && i < sizes[k] ? FINE : INDEX;
        }

        int faultOfSpan(int k, int i, int n) {
            boolean within = i >= 0 && i <= sizes[k] && n >= 0 && n <= sizes[k] - i;
            return within ? FINE : INDEX;
        }

        void renew(int k, int lane, int n) {
            lanes[k] = lane;
            sizes[k] = n;
            for (int i = 0; i < n; i++) {
                cells[k * CELLS + i] = 0;
            }
        }

        /** Whether there was something. */
        boolean clear(int k) {
            boolean was = !isEmpty(k);
            sizes[k] = NONE;
            return was;
        }

        int read(int k, int i) {
            return cells[k * CELLS + i];
        }

        void write(int k, int i, int v) {
            cells[k * CELLS + i] = cut(v, lanes[k]);
        }

        private static int cut(int v, int lane) {
            switch (lane) {
                case 0: return (byte) v;
                case 1: return (short) v;
                default: return v;
            }
        }

        void move(int k, int i, int other, int j, int n) {
            System.arraycopy(cells, k * CELLS + i, cells, other * CELLS + j, n);
        }

        void take(int k, int i, int n, int[] into) {
            System.arraycopy(cells, k * CELLS + i, into, 0, n);
        }
    }

    /** Looks through the codes of a TEXT, from the first one on. */
    private static final class Text {
        private static final int CODES_OF_SORT = 5, CODES_OF_SIGN = 3;

        final int[] codes = new int[CELLS];
        private int length;
        private int at;
        /** How many there are in the codes that were looked through. */
        int sorts;
        int signs;

        /** The FIRST FAULT; NONE: it is a TEXT. */
        int firstFault(int n) {
            length = n;
            at = 0;
            sorts = 0;
            signs = 0;
            if (!passes('t', 't') || !passesSorts() || !passesSigns() || at < length) {
                return at;
            }
            return NONE;
        }

        /** Goes on by one code, if that is one of first .. last; if not, it stays there. */
        private boolean passes(int first, int last) {
            if (!isNext(first, last)) {
                return false;
            }
            at++;
            return true;
        }

        private boolean isNext(int first, int last) {
            return at < length && codes[at] >= first && codes[at] <= last;
        }

        private boolean passesSorts() {
            while (sorts < MOST_SORTS && isNext(';', ';')) {
                if (!passesSort()) {
                    return false;
                }
                sorts++;
            }
            return sorts >= 2;
        }

        private boolean passesSort() {
            return passes(';', ';') && passesKind() && passes('0', '9') && passes('1', '9') && passes('0', '5');
        }

        private boolean passesKind() {
            return passes('p', 'p') || passes('s', 's') || passes('d', 'd');
        }

        private boolean passesSigns() {
            while (signs < MOST_SIGNS && isNext('/', '/')) {
                if (!passesSign()) {
                    return false;
                }
                signs++;
            }
            return signs >= 1;
        }

        private boolean passesSign() {
            if (!passes('/', '/')) {
                return false;
            }
            // the sets end with 63
            int last = isNext('6', '6') ? '3' : '9';
            return passes('0', '6') && passes('0', last);
        }
    }

    /** The FLOOR: its SORTS, SIGNS and READINGS; no SORTS: there is none. */
    private static final class Page {
        int sorts;
        int signs;
        int readings;
        final int[] kind = new int[MOST_SORTS];
        final int[] count = new int[MOST_SORTS];
        final int[] seconds = new int[MOST_SORTS];
        final int[] alike = new int[MOST_SORTS];
        /** The SORTS that have a SIGN, of those that there are. */
        final int[] having = new int[MOST_SIGNS];
        private final int[] setRead = new int[MOST_READINGS];
        private final int[] timeRead = new int[MOST_READINGS];

        boolean isThere() {
            return sorts > 0;
        }

        boolean isSort(int s) {
            return s >= 0 && s < sorts;
        }

        boolean isSign(int k) {
            return k >= 0 && k < signs;
        }

        boolean isSet(int set) {
            return set >= 0 && set <= everySort();
        }

        int everySort() {
            return (1 << sorts) - 1;
        }

        /** All anew by a TEXT that has no FAULT. */
        void fill(Text text) {
            sorts = text.sorts;
            signs = text.signs;
            readings = 0;
            for (int s = 0; s < sorts; s++) {
                fillSort(text.codes, 1 + s * Text.CODES_OF_SORT, s);
            }
            int from = 1 + sorts * Text.CODES_OF_SORT;
            for (int k = 0; k < signs; k++) {
                int at = from + k * Text.CODES_OF_SIGN;
                having[k] = (10 * (text.codes[at + 1] - '0') + text.codes[at + 2] - '0') & everySort();
            }
        }

        private void fillSort(int[] codes, int at, int s) {
            kind[s] = codes[at + 1] == 'p' ? PICKING : codes[at + 1] == 's' ? SURE : DOUBTFUL;
            count[s] = codes[at + 2] - '0';
            seconds[s] = codes[at + 3] - '0';
            alike[s] = codes[at + 4] - '0';
        }

        int letters() {
            int sum = 0;
            for (int s = 0; s < sorts; s++) {
                sum += count[s];
            }
            return sum;
        }

        /** Seconds for one LOOK at each letter of a set of SORTS. */
        int secondsFor(int set) {
            int sum = 0;
            for (int s = 0; s < sorts; s++) {
                if (holds(set, s)) {
                    sum += count[s] * look(kind[s], seconds[s]);
                }
            }
            return sum;
        }

        /** How many letters may come to the box of a SORT by mistake. */
        int lettersAlike(int s) {
            int sum = 0;
            for (int other = 0; other < sorts; other++) {
                if (other != s && kind[other] == PICKING && alike[other] == s) {
                    sum += count[other];
                }
            }
            return sum;
        }

        int firstShort(int[] letters, int n) {
            for (int at = 0; at < n; at++) {
                int ahead = 0;
                for (int before = 0; before < at; before++) {
                    ahead += letters[before] == letters[at] ? 1 : 0;
                }
                if (ahead >= count[letters[at]]) {
                    return at;
                }
            }
            return NONE;
        }

        /** The HEAP of a SORT behind PASSES by the used SIGNS: their order and number don't matter. */
        int heapOf(int s, int used) {
            int heap = everySort();
            for (int k = 0; k < signs; k++) {
                if (holds(used, k)) {
                    heap &= holds(having[k], s) ? having[k] : ~having[k];
                }
            }
            return heap;
        }

        /** The SORTS that are not READY behind PASSES by the used SIGNS. */
        int waiting(int used) {
            int set = 0;
            for (int s = 0; s < sorts; s++) {
                if (heapOf(s, used) != 1 << s) {
                    set |= 1 << s;
                }
            }
            return set;
        }

        int heaps(int used) {
            int sum = 0;
            for (int s = 0; s < sorts; s++) {
                sum += least(heapOf(s, used)) == s ? 1 : 0;
            }
            return sum;
        }

        int note(int set, int v) {
            setRead[readings] = set;
            timeRead[readings] = v;
            readings++;
            return readings - 1;
        }

        /** Whether all READINGS are so, if the letters of a SORT take so many seconds together. */
        boolean readingsHold(int s, int taken) {
            for (int r = 0; r < readings; r++) {
                int sum = secondsFor(setRead[r] & ~(1 << s));
                if (holds(setRead[r], s)) {
                    sum += taken;
                }
                if (sum != timeRead[r]) {
                    return false;
                }
            }
            return true;
        }
    }

    /** A PLAN as it is gone through, PASS by PASS. */
    private static final class Walk {
        int seconds;
        int idle;
        int used;
        /** Seconds behind which each SORT is READY. */
        final int[] behind = new int[MOST_SORTS];

        void go(Page page, int[] plan, int n) {
            seconds = 0;
            idle = NONE;
            used = 0;
            for (int s = 0; s < MOST_SORTS; s++) {
                behind[s] = NONE;
            }
            for (int place = 0; place < n; place++) {
                passBy(page, plan[place], place);
            }
        }

        private void passBy(Page page, int k, int place) {
            int then = used | 1 << k;
            int waiting = page.waiting(used);
            seconds += page.secondsFor(waiting);
            if (idle == NONE && page.heaps(then) == page.heaps(used)) {
                idle = place;
            }
            noteReady(waiting & ~page.waiting(then));
            used = then;
        }

        private void noteReady(int set) {
            for (int s = 0; s < MOST_SORTS; s++) {
                if (holds(set, s)) {
                    behind[s] = seconds;
                }
            }
        }

        int allReadyBehind(int set) {
            int latest = 0;
            for (int s = 0; s < MOST_SORTS; s++) {
                if (holds(set, s)) {
                    if (behind[s] == NONE) {
                        return NONE;
                    }
                    latest = Math.max(latest, behind[s]);
                }
            }
            return latest;
        }
    }

    /** Fewest seconds, by one ORDER for all HEAPS and by a TREE. */
    private static final class Search {
        /** For each set of used SIGNS the fewest seconds that are still to come; NONE: no way. */
        private final int[] byUsed = new int[1 << MOST_SIGNS];
        /** For each HEAP the fewest seconds that part it wholly; NONE: no way. */
        private final int[] byHeap = new int[1 << MOST_SORTS];

        void weighOrders(Page page) {
            for (int used = (1 << page.signs) - 1; used >= 0; used--) {
                int waiting = page.waiting(used);
                byUsed[used] = waiting == 0 ? 0 : fewestFrom(page, used, waiting);
            }
        }

        private int fewestFrom(Page page, int used, int waiting) {
            int fewest = NONE;
            for (int k = 0; k < page.signs; k++) {
                if (!holds(used, k)) {
                    fewest = fewer(fewest, byUsed[used | 1 << k]);
                }
            }
            return fewest == NONE ? NONE : fewest + page.secondsFor(waiting);
        }

        private static int fewer(int a, int b) {
            if (a == NONE) {
                return b;
            }
            return b == NONE ? a : Math.min(a, b);
        }

        int fewestByOrder() {
            return byUsed[0];
        }

        int signOfOrder(Page page, int place) {
            int used = 0;
            for (int at = 0; at < place; at++) {
                int k = nextSign(page, used);
                if (k == NONE) {
                    return NONE;
                }
                used |= 1 << k;
            }
            return nextSign(page, used);
        }

        /** The least SIGN by which the fewest seconds are kept; NONE: nothing is left, or no way. */
        private int nextSign(Page page, int used) {
            int waiting = page.waiting(used);
            if (byUsed[used] == NONE || waiting == 0) {
                return NONE;
            }
            int left = byUsed[used] - page.secondsFor(waiting);
            for (int k = 0; k < page.signs; k++) {
                if (!holds(used, k) && byUsed[used | 1 << k] == left) {
                    return k;
                }
            }
            return NONE;
        }

        void weighTrees(Page page) {
            for (int heap = 0; heap <= page.everySort(); heap++) {
                byHeap[heap] = Integer.bitCount(heap) < 2 ? 0 : fewestOf(page, heap);
            }
        }

        private int fewestOf(Page page, int heap) {
            int fewest = NONE;
            for (int k = 0; k < page.signs; k++) {
                fewest = fewer(fewest, behindParting(page, heap, k));
            }
            return fewest == NONE ? NONE : fewest + page.secondsFor(heap);
        }

        /** The fewest seconds behind the parting of a HEAP by a SIGN; NONE: no way, or not into two. */
        private int behindParting(Page page, int heap, int k) {
            int with = heap & page.having[k];
            int without = heap & ~page.having[k];
            if (with == 0 || without == 0 || byHeap[with] == NONE || byHeap[without] == NONE) {
                return NONE;
            }
            return byHeap[with] + byHeap[without];
        }

        int fewestByTree(Page page) {
            return byHeap[page.everySort()];
        }

        int firstOfTree(Page page) {
            int heap = page.everySort();
            if (byHeap[heap] == NONE) {
                return NONE;
            }
            int left = byHeap[heap] - page.secondsFor(heap);
            for (int k = 0; k < page.signs; k++) {
                if (behindParting(page, heap, k) == left) {
                    return k;
                }
            }
            return NONE;
        }
    }
}
