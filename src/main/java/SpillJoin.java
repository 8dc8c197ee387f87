import java.util.Arrays;

/** Two tables joined by their keys within a told memory; README.md says how to use it. */
public final class SpillJoin {
    public static final int NONE = -1, UNKNOWN = -101, OUTSIDE = -102, STATE = -103, FULL = -104;

    private static final int LEFT = 0, RIGHT = 1;
    private static final int MOST_ROWS = 14, LAST_KEY = 15;
    private static final int LEAST_MEMORY = 1, MOST_MEMORY = 9;
    private static final int BROKEN_OFF = -2;
    // 14 times 14 pairs are the most that can come out, so that this limit never breaks a run off.
    private static final int MOST_LIMIT = 250;

    private static final int KINDS = 5, JOIN = 0, OUTER = 1, FULL_OUTER = 4;
    private static final String KIND_LETTERS = "jlasf";
    // What can come out, the numbers that see() and sorts() use too.
    private static final int OUTCOMES = 4;
    private static final int PAIRS = 0, LEFT_ALONE = 1, RIGHT_ALONE = 2, LEFT_ONCE = 3;
    // For each kind, as bits, what comes out by it.
    private static final int[] COMES_OUT = {0b0001, 0b0011, 0b0010, 0b1000, 0b0111};

    private static final int DRAWN_ROWS = 8, DRAWN_KEYS = 17, MOST_DRAWN = 10;

    private final Page page = new Page();
    private final Run latest = new Run();
    private final Tables current = latest.tables;
    private final Seen seen = new Seen();

    private final Tables keptTables = new Tables();
    private final Seen keptSeen = new Seen();
    private boolean imageKept;

    private final Run drawnRun = new Run();

    private int runs;
    private int reads;

    public SpillJoin() {
    }

    // ---- the tables

    public int letter(int code) {
        if (code < 32 || code > 126) {
            return OUTSIDE;
        }
        if (page.isFull()) {
            return FULL;
        }
        page.add(code);
        return page.size;
    }

    public int blank() {
        int had = page.size;
        page.clear();
        return had;
    }

    public int fault() {
        return page.firstFault();
    }

    public int tables() {
        if (!page.isWhole()) {
            return STATE;
        }
        int middle = page.secondMark();
        current.memory = page.codeAt(0) - '0';
        current.kind = Page.kindOf(page.codeAt(1));
        page.readRows(current.left, Page.HEAD, middle);
        page.readRows(current.right, middle + 1, page.size);
        page.clear();
        seen.clear();
        latest.clear(0);
        imageKept = false;
        runs = 0;
        reads++;
        return current.size();
    }

    public int row(int side, int row, int what) {
        if (!current.hasRow(side, row)) {
            return UNKNOWN;
        }
        if (what < 0 || what > 1) {
            return OUTSIDE;
        }
        return what == 0 ? current.sideOf(side).keyAt(row) : Integer.bitCount(current.partners(side, row));
    }

    public int as(int kind) {
        if (!isKind(kind)) {
            return OUTSIDE;
        }
        if (!current.areThere()) {
            return STATE;
        }
        boolean such = kind == JOIN || kind == current.kind || kind == OUTER && current.kind == FULL_OUTER;
        return such ? current.kind : NONE;
    }

    // ---- what is done

    public int put(int side, int key) {
        if (!isSide(side)) {
            return UNKNOWN;
        }
        if (!isKeyOrNone(key)) {
            return OUTSIDE;
        }
        if (!current.areThere()) {
            return STATE;
        }
        Side rows = current.sideOf(side);
        if (rows.size >= MOST_ROWS) {
            return FULL;
        }
        rows.add(key);
        return rows.size;
    }

    public int take(int side, int row) {
        if (!current.hasRow(side, row)) {
            return UNKNOWN;
        }
        Side rows = current.sideOf(side);
        int had = rows.keyAt(row);
        rows.remove(row);
        return had;
    }

    public int key(int side, int row, int key) {
        if (!current.hasRow(side, row)) {
            return UNKNOWN;
        }
        if (!isKeyOrNone(key)) {
            return OUTSIDE;
        }
        Side rows = current.sideOf(side);
        int had = rows.keyAt(row);
        rows.change(row, key);
        return had;
    }

    public int memory(int memory) {
        if (memory < LEAST_MEMORY || memory > MOST_MEMORY) {
            return OUTSIDE;
        }
        if (!current.areThere()) {
            return STATE;
        }
        int was = current.memory;
        current.memory = memory;
        return was;
    }

    public int be(int kind) {
        if (!isKind(kind)) {
            return OUTSIDE;
        }
        if (!current.areThere()) {
            return STATE;
        }
        int was = current.kind;
        current.kind = kind;
        return was;
    }

    public int run(int limit) {
        if (limit < 0 || limit > MOST_LIMIT) {
            return OUTSIDE;
        }
        if (!current.areThere()) {
            return STATE;
        }
        runs++;
        latest.go(limit);
        return latest.output.broken ? BROKEN_OFF : latest.output.size;
    }

    // ---- what the latest run told

    public int out(int number, int what) {
        if (number < 0 || number >= latest.output.size) {
            return UNKNOWN;
        }
        if (what < 0 || what > 1) {
            return OUTSIDE;
        }
        return latest.output.at(number, what);
    }

    public int log(int number, int what) {
        if (number < 0 || number >= latest.log.size) {
            return UNKNOWN;
        }
        if (what < 0 || what > 2) {
            return OUTSIDE;
        }
        return latest.log.at(number, what);
    }

    public int ledger(int what) {
        if (what < 0 || what >= Run.LEDGER_LINES) {
            return OUTSIDE;
        }
        return latest.lineAt(what);
    }

    // ---- what would be

    public int spare() {
        if (!current.areThere()) {
            return STATE;
        }
        // Only the first part's turn decides: if it is split, something is written.
        int side = current.buildSide(current.left.rowsWithKey(), current.right.rowsWithKey());
        int build = current.sideOf(side).rowsWithKey();
        if (current.sideOf(side).haveOneKey(build)) {
            return LEAST_MEMORY;
        }
        int least = Math.max(LEAST_MEMORY, Integer.bitCount(build));
        return least <= MOST_MEMORY ? least : NONE;
    }

    // ---- what is seen

    public int see(int what, boolean comes) {
        if (what < 0 || what >= OUTCOMES) {
            return OUTSIDE;
        }
        if (!current.areThere()) {
            return STATE;
        }
        if (seen.size >= Seen.MOST) {
            return FULL;
        }
        seen.add(what, comes);
        return seen.size;
    }

    public int forget() {
        int was = seen.size;
        seen.clear();
        return was;
    }

    public int sorts(int what) {
        if (what < 0 || what > 1) {
            return OUTSIDE;
        }
        return what == 0 ? seen.kindsLeft : seen.bestQuestion();
    }

    public int drawn(int times, int seed, int what) {
        if (times < 1 || times > MOST_DRAWN || seed < 0 || what < 0 || what > 2) {
            return OUTSIDE;
        }
        if (!current.areThere()) {
            return STATE;
        }
        drawnRun.tables.memory = current.memory;
        drawnRun.tables.kind = current.kind;
        int next = seed;
        int cameOut = 0;
        int written = 0;
        for (int time = 0; time < times; time++) {
            next = drawRows(drawnRun.tables.left, next);
            next = drawRows(drawnRun.tables.right, next);
            drawnRun.go(MOST_LIMIT);
            cameOut += drawnRun.lineAt(Run.CAME_OUT);
            written += drawnRun.lineAt(Run.WRITTEN);
        }
        if (what == 0) {
            return cameOut;
        }
        return what == 1 ? written : next;
    }

    // ---- what is told of all

    public int image() {
        if (!current.areThere()) {
            return STATE;
        }
        keptTables.copy(current);
        keptSeen.copy(seen);
        imageKept = true;
        return current.size();
    }

    public int restore() {
        if (!imageKept) {
            return STATE;
        }
        current.copy(keptTables);
        seen.copy(keptSeen);
        return current.size();
    }

    public int count(int what) {
        switch (what) {
            case 0: return current.left.size;
            case 1: return current.right.size;
            case 2: return current.memory;
            case 3: return current.kind;
            case 4: return Integer.bitCount(current.left.keySet() | current.right.keySet());
            case 5: return current.pairs();
            case 6: return runs;
            case 7: return seen.size;
            case 8: return page.size;
            case 9: return reads;
            default: return OUTSIDE;
        }
    }

    public long digest() {
        long hash = 1373;
        hash = mixRows(hash, LEFT);
        hash = mixRows(hash, RIGHT);
        for (int what = 0; what < Run.LEDGER_LINES; what++) {
            hash = mix(hash, ledger(what));
        }
        for (int number = 0; number < latest.output.size; number++) {
            hash = mix(mix(hash, out(number, 0)), out(number, 1));
        }
        for (int number = 0; number < latest.log.size; number++) {
            hash = mix(mix(mix(hash, log(number, 0)), log(number, 1)), log(number, 2));
        }
        if (current.areThere()) {
            hash = mix(hash, spare());
        }
        hash = mix(mix(hash, sorts(0)), sorts(1));
        for (int place = 0; place < page.size; place++) {
            hash = mix(hash, page.codeAt(place));
        }
        for (int what = 0; what <= 9; what++) {
            hash = mix(hash, count(what));
        }
        return hash;
    }

    private long mixRows(long start, int side) {
        long hash = start;
        for (int row = 0; row < current.sideOf(side).size; row++) {
            hash = mix(mix(hash, row(side, row, 0)), row(side, row, 1));
        }
        return hash;
    }

    private static long mix(long hash, long number) {
        return 31 * hash + number;
    }

    private static boolean isSide(int side) {
        return side == LEFT || side == RIGHT;
    }

    private static int otherSide(int side) {
        return side == LEFT ? RIGHT : LEFT;
    }

    private static boolean isKind(int kind) {
        return kind >= 0 && kind < KINDS;
    }

    private static boolean isKeyOrNone(int key) {
        return key >= NONE && key <= LAST_KEY;
    }

    private static boolean comesOutBy(int kind, int what) {
        return kind >= 0 && kind < COMES_OUT.length && (COMES_OUT[kind] >> what & 1) == 1;
    }

    private static boolean isIn(int rows, int row) {
        return (rows >> row & 1) == 1;
    }

    /** Draws the keys of one side and answers the seed behind them. */
    private static int drawRows(Side side, int seed) {
        long next = seed;
        side.clear();
        for (int row = 0; row < DRAWN_ROWS; row++) {
            next = (1103515245L * next + 12345L) % (1L << 31);
            int draw = (int) (next / 65536 % DRAWN_KEYS);
            side.add(draw > LAST_KEY ? NONE : draw);
        }
        return (int) next;
    }

    /** The letters that wait to be read as tables. */
    private static final class Page {
        private static final int MOST = 36;
        // A memory, a kind and a mark stand ahead of the rows.
        private static final int HEAD = 3;
        private static final char MARK = ';', NO_KEY = '-', FIRST_KEY_SIGN = 'a';

        private final int[] codes = new int[MOST];
        private int size;

        private static int kindOf(int code) {
            return KIND_LETTERS.indexOf((char) code);
        }

        private static boolean isRow(int code) {
            return code == NO_KEY || code >= FIRST_KEY_SIGN && code <= FIRST_KEY_SIGN + LAST_KEY;
        }

        private boolean isFull() {
            return size >= MOST;
        }

        private void add(int code) {
            if (size >= 0 && size < MOST) {
                codes[size] = code;
                size++;
            }
        }

        private void clear() {
            size = 0;
        }

        private int codeAt(int place) {
            return place >= 0 && place < size && place < MOST ? codes[place] : NONE;
        }

        private int firstFault() {
            boolean secondSide = false;
            int rows = 0;
            for (int place = 0; place < size; place++) {
                int code = codeAt(place);
                if (place < HEAD) {
                    if (!isHead(place, code)) {
                        return place;
                    }
                } else if (code == MARK && !secondSide) {
                    secondSide = true;
                    rows = 0;
                } else if (isRow(code) && rows < MOST_ROWS) {
                    rows++;
                } else {
                    return place;
                }
            }
            return size;
        }

        private static boolean isHead(int place, int code) {
            if (place == 0) {
                return code >= '0' + LEAST_MEMORY && code <= '0' + MOST_MEMORY;
            }
            return place == 1 ? kindOf(code) >= 0 : code == MARK;
        }

        /** The place of the mark between both sides, or NONE. */
        private int secondMark() {
            for (int place = HEAD; place < size; place++) {
                if (codeAt(place) == MARK) {
                    return place;
                }
            }
            return NONE;
        }

        private boolean isWhole() {
            return firstFault() == size && secondMark() != NONE;
        }

        private void readRows(Side side, int from, int end) {
            side.clear();
            for (int place = from; place < end; place++) {
                int code = codeAt(place);
                side.add(code == NO_KEY ? NONE : code - FIRST_KEY_SIGN);
            }
        }
    }

    /** The rows of one side; a set of them is told by bits, bit n for row n. */
    private static final class Side {
        private final int[] keys = new int[MOST_ROWS];
        private int size;

        private boolean has(int row) {
            return row >= 0 && row < size && row < MOST_ROWS;
        }

        private int keyAt(int row) {
            return row >= 0 && row < size && row < MOST_ROWS ? keys[row] : NONE;
        }

        private void clear() {
            size = 0;
        }

        private void add(int key) {
            if (size >= 0 && size < MOST_ROWS) {
                keys[size] = key;
                size++;
            }
        }

        private void change(int row, int key) {
            if (has(row)) {
                keys[row] = key;
            }
        }

        private void remove(int row) {
            if (has(row)) {
                for (int later = row + 1; later < size; later++) {
                    change(later - 1, keyAt(later));
                }
                size--;
            }
        }

        private void copy(Side other) {
            clear();
            for (int row = 0; row < other.size; row++) {
                add(other.keyAt(row));
            }
        }

        private int rowsWithKey() {
            int rows = 0;
            for (int row = 0; row < size && row < MOST_ROWS; row++) {
                if (keys[row] != NONE) {
                    rows |= 1 << row;
                }
            }
            return rows;
        }

        private int rowsWithoutKey() {
            return (1 << size) - 1 & ~rowsWithKey();
        }

        private int rowsOfKey(int key) {
            int rows = 0;
            for (int row = 0; row < size && row < MOST_ROWS; row++) {
                if (keys[row] == key) {
                    rows |= 1 << row;
                }
            }
            return rows;
        }

        private int rowsWithBit(int bit) {
            int rows = 0;
            for (int row = 0; row < size && row < MOST_ROWS; row++) {
                if (keys[row] != NONE && (keys[row] >> bit & 1) == 1) {
                    rows |= 1 << row;
                }
            }
            return rows;
        }

        private boolean haveOneKey(int rows) {
            int first = Integer.numberOfTrailingZeros(rows);
            return has(first) && (rows & ~rowsOfKey(keyAt(first))) == 0;
        }

        /** The different keys, bit n for key n. */
        private int keySet() {
            int set = 0;
            for (int row = 0; row < size && row < MOST_ROWS; row++) {
                if (keys[row] != NONE) {
                    set |= 1 << keys[row];
                }
            }
            return set;
        }
    }

    /** Both sides, the memory and the kind; without tables the memory is 0 and the kind NONE. */
    private static final class Tables {
        private final Side left = new Side();
        private final Side right = new Side();
        private int memory;
        private int kind = NONE;

        private boolean areThere() {
            return memory != 0;
        }

        private int size() {
            return left.size + right.size;
        }

        private Side sideOf(int side) {
            return side == LEFT ? left : right;
        }

        private boolean hasRow(int side, int row) {
            return isSide(side) && sideOf(side).has(row);
        }

        /** The rows of the other side that have the same key. */
        private int partners(int side, int row) {
            int key = sideOf(side).keyAt(row);
            return key == NONE ? 0 : sideOf(otherSide(side)).rowsOfKey(key);
        }

        private int pairs() {
            int pairs = 0;
            for (int row = 0; row < left.size; row++) {
                pairs += Integer.bitCount(partners(LEFT, row));
            }
            return pairs;
        }

        private int buildSide(int leftRows, int rightRows) {
            return Integer.bitCount(leftRows) < Integer.bitCount(rightRows) ? LEFT : RIGHT;
        }

        private void copy(Tables other) {
            left.copy(other.left);
            right.copy(other.right);
            memory = other.memory;
            kind = other.kind;
        }
    }

    /** What is seen of a join of unknown kind: how much, and which kinds that leaves. */
    private static final class Seen {
        private static final int MOST = 6;
        private static final int ALL_KINDS = (1 << KINDS) - 1;

        private int size;
        private int kindsLeft = ALL_KINDS;

        private void clear() {
            size = 0;
            kindsLeft = ALL_KINDS;
        }

        private void add(int what, boolean comes) {
            int kinds = kindsThatLetOut(what);
            kindsLeft &= comes ? kinds : ~kinds;
            size++;
        }

        private void copy(Seen other) {
            size = other.size;
            kindsLeft = other.kindsLeft;
        }

        private int bestQuestion() {
            int best = NONE;
            int all = Integer.bitCount(kindsLeft);
            int fewest = KINDS + 1;
            for (int what = 0; what < OUTCOMES && all > 0; what++) {
                int yes = Integer.bitCount(kindsLeft & kindsThatLetOut(what));
                int worst = Math.max(yes, all - yes);
                if (worst < fewest) {
                    fewest = worst;
                    best = what;
                }
            }
            return best;
        }

        private static int kindsThatLetOut(int what) {
            int kinds = 0;
            for (int kind = 0; kind < KINDS; kind++) {
                if (comesOutBy(kind, what)) {
                    kinds |= 1 << kind;
                }
            }
            return kinds;
        }
    }

    /** What came out of a run; it breaks off when one more would come out than the limit. */
    private static final class Output {
        private final int[] left = new int[MOST_LIMIT];
        private final int[] right = new int[MOST_LIMIT];
        private int size;
        private int limit;
        private boolean broken;

        private void clear(int newLimit) {
            size = 0;
            limit = newLimit;
            broken = false;
        }

        private void add(int leftRow, int rightRow) {
            if (size < 0 || size >= limit || size >= MOST_LIMIT) {
                broken = true;
                return;
            }
            left[size] = leftRow;
            right[size] = rightRow;
            size++;
        }

        private int at(int number, int what) {
            if (number < 0 || number >= size || number >= MOST_LIMIT) {
                return UNKNOWN;
            }
            return what == 0 ? left[number] : right[number];
        }
    }

    /** What was opened and shut, and the pile of what still is open. */
    private static final class Log {
        // At most 14 splits of 4 files and 29 turns: 85 are opened and shut, of which 21 are open at once.
        private static final int MOST = 200, MOST_OPEN = 30;

        private final int[] numbers = new int[MOST];
        private final int[] opened = new int[MOST];
        private final int[] natures = new int[MOST];
        private int size;

        private final int[] openNumbers = new int[MOST_OPEN];
        private final int[] openNatures = new int[MOST_OPEN];
        private int depth;
        private int nextNumber;

        private void clear() {
            size = 0;
            depth = 0;
            nextNumber = 0;
        }

        private void open(int nature) {
            if (depth >= 0 && depth < MOST_OPEN) {
                openNumbers[depth] = nextNumber;
                openNatures[depth] = nature;
                depth++;
                add(nextNumber, 1, nature);
                nextNumber++;
            }
        }

        /** Shuts the latest ones until only so many are open. */
        private void shutDownTo(int left) {
            for (int place = depth - 1; place >= left && place >= 0 && place < MOST_OPEN; place--) {
                add(openNumbers[place], 0, openNatures[place]);
                depth = place;
            }
        }

        private void add(int number, int open, int nature) {
            if (size >= 0 && size < MOST) {
                numbers[size] = number;
                opened[size] = open;
                natures[size] = nature;
                size++;
            }
        }

        private int at(int number, int what) {
            if (number < 0 || number >= size || number >= MOST) {
                return UNKNOWN;
            }
            if (what == 0) {
                return numbers[number];
            }
            return what == 1 ? opened[number] : natures[number];
        }
    }

    /** Tables, a run through their join, and what the latest such run told. */
    private static final class Run {
        private static final int HELD = 0, BLOCKS = 1, SPLIT = 2, FILE = 3;
        private static final int LAST_LEVEL = 4;

        private static final int LEDGER_LINES = 10;
        private static final int CAME_OUT = 0, WRITTEN = 1, READ = 2, MOST_HELD = 3, DEEPEST = 4;
        // The lines of held, blocks and split parts follow each other as these natures do.
        private static final int PARTS = 5, LEFT_BUILDS = 8, ENTRIES = 9;

        private final Tables tables = new Tables();
        private final Output output = new Output();
        private final Log log = new Log();
        private final int[] lines = new int[LEDGER_LINES];
        private int cameOnce;

        private Run() {
            lines[DEEPEST] = NONE;
        }

        private void clear(int limit) {
            output.clear(limit);
            log.clear();
            Arrays.fill(lines, 0);
            lines[DEEPEST] = NONE;
            cameOnce = 0;
        }

        private int lineAt(int what) {
            return what >= 0 && what < LEDGER_LINES ? lines[what] : OUTSIDE;
        }

        private void go(int limit) {
            clear(limit);
            int left = tables.left.rowsWithKey();
            int right = tables.right.rowsWithKey();
            if ((left | right) != 0) {
                turn(left, right, 0);
            }
            comeOutAlone(LEFT, tables.left.rowsWithoutKey());
            comeOutAlone(RIGHT, tables.right.rowsWithoutKey());
            lines[CAME_OUT] = output.size;
            lines[ENTRIES] = log.size;
        }

        private void turn(int left, int right, int level) {
            int side = tables.buildSide(left, right);
            int build = side == LEFT ? left : right;
            int probe = side == LEFT ? right : left;
            int nature = natureOf(side, build, level);
            int openBefore = log.depth;
            log.open(nature);
            enterPart(side, nature, level);
            if (nature == HELD) {
                hold(side, build, probe);
            } else if (nature == BLOCKS) {
                goByBlocks(side, build, probe);
            } else {
                split(side, build, probe, level);
            }
            log.shutDownTo(openBefore);
        }

        private int natureOf(int side, int build, int level) {
            if (Integer.bitCount(build) <= tables.memory) {
                return HELD;
            }
            return level >= LAST_LEVEL || tables.sideOf(side).haveOneKey(build) ? BLOCKS : SPLIT;
        }

        private void enterPart(int side, int nature, int level) {
            if (nature >= HELD && nature <= SPLIT) {
                lines[PARTS + nature]++;
            }
            if (side == LEFT) {
                lines[LEFT_BUILDS]++;
            }
            lines[DEEPEST] = Math.max(lines[DEEPEST], level);
        }

        private void hold(int side, int build, int probe) {
            noteHeld(build);
            int probeSide = otherSide(side);
            for (int row = 0; row < MOST_ROWS && !output.broken; row++) {
                if (isIn(probe, row)) {
                    meetAll(side, build, row);
                    comeOutAlone(probeSide, 1 << row);
                }
            }
            comeOutAlone(side, build);
        }

        private void goByBlocks(int side, int build, int probe) {
            int rest = build;
            for (int done = 0; done < MOST_ROWS && rest != 0 && !output.broken; done++) {
                int block = firstOf(rest, tables.memory);
                rest &= ~block;
                noteHeld(block);
                lines[READ] += Integer.bitCount(probe);
                for (int row = 0; row < MOST_ROWS && !output.broken; row++) {
                    if (isIn(probe, row)) {
                        meetAll(side, block, row);
                    }
                }
            }
            comeOutAlone(otherSide(side), probe);
            comeOutAlone(side, build);
        }

        private static int firstOf(int rows, int many) {
            int first = 0;
            for (int row = 0; row < MOST_ROWS && Integer.bitCount(first) < many; row++) {
                first |= rows & 1 << row;
            }
            return first;
        }

        private void split(int side, int build, int probe, int level) {
            int buildOnes = tables.sideOf(side).rowsWithBit(level);
            int probeOnes = tables.sideOf(otherSide(side)).rowsWithBit(level);
            int build0 = build & ~buildOnes;
            int build1 = build & buildOnes;
            int probe0 = probe & ~probeOnes;
            int probe1 = probe & probeOnes;
            int resident = residentHalf(Integer.bitCount(build0), Integer.bitCount(build1));
            if (resident != 0) {
                spill(build0, probe0);
            }
            if (resident != 1) {
                spill(build1, probe1);
            }
            if (resident != NONE) {
                hold(side, resident == 0 ? build0 : build1, resident == 0 ? probe0 : probe1);
            }
            if (resident != 0) {
                goOn(side, build0, probe0, level);
            }
            if (resident != 1) {
                goOn(side, build1, probe1, level);
            }
        }

        // A half that is left out may be answered too: there is nothing of it to hold.
        private int residentHalf(int build0, int build1) {
            boolean fits0 = build0 <= tables.memory;
            boolean fits1 = build1 <= tables.memory;
            if (fits0 && fits1) {
                return build1 > build0 ? 1 : 0;
            }
            if (fits0) {
                return 0;
            }
            return fits1 ? 1 : NONE;
        }

        private void spill(int build, int probe) {
            if ((build | probe) != 0) {
                log.open(FILE);
                log.open(FILE);
                lines[WRITTEN] += Integer.bitCount(build) + Integer.bitCount(probe);
            }
        }

        /** Reads a half that was written, which is a part of the next level. */
        private void goOn(int side, int build, int probe, int level) {
            if ((build | probe) != 0 && level < LAST_LEVEL && !output.broken) {
                lines[READ] += Integer.bitCount(build) + Integer.bitCount(probe);
                turn(side == LEFT ? build : probe, side == LEFT ? probe : build, level + 1);
            }
        }

        private void noteHeld(int rows) {
            lines[MOST_HELD] = Math.max(lines[MOST_HELD], Integer.bitCount(rows));
        }

        /** A probe row meets its partners among these build rows. */
        private void meetAll(int side, int build, int probeRow) {
            int partners = build & tables.partners(otherSide(side), probeRow);
            for (int row = 0; row < MOST_ROWS && !output.broken; row++) {
                if (isIn(partners, row)) {
                    meet(side == LEFT ? row : probeRow, side == LEFT ? probeRow : row);
                }
            }
        }

        private void meet(int left, int right) {
            if (comesOutBy(tables.kind, PAIRS)) {
                output.add(left, right);
            } else if (comesOutBy(tables.kind, LEFT_ONCE) && !isIn(cameOnce, left)) {
                cameOnce |= 1 << left;
                output.add(left, NONE);
            }
        }

        /** Those of the rows that have no partner come out, if such do. */
        private void comeOutAlone(int side, int rows) {
            if (!comesOutBy(tables.kind, side == LEFT ? LEFT_ALONE : RIGHT_ALONE)) {
                return;
            }
            for (int row = 0; row < MOST_ROWS && !output.broken; row++) {
                if (isIn(rows, row) && tables.partners(side, row) == 0) {
                    output.add(side == LEFT ? row : NONE, side == LEFT ? NONE : row);
                }
            }
        }
    }
}
