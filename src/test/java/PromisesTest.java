import java.util.function.LongSupplier;

/** Promise by promise, with answers worked out by hand from the document. */
public final class PromisesTest {
    private static final int NONE = -1, UNKNOWN = -101, OUTSIDE = -102, STATE = -103, FULL = -104;
    private static final int LOWEST = Integer.MIN_VALUE, HIGHEST = Integer.MAX_VALUE;

    private static int wrong = 0;

    private static void due(int promise, String what, long got, long want) {
        if (got != want) {
            wrong++;
            System.out.println("promise " + promise + ": " + what + " answered " + got + ", due is " + want);
        }
    }

    private static void due(int promise, String what, String got, String want) {
        if (!got.equals(want)) {
            wrong++;
            System.out.println("promise " + promise + ": " + what + " told " + got + ", due is " + want);
        }
    }

    /** A refusal, or a call that only tells: the answer is due and nothing is changed. */
    private static void still(int promise, SpillJoin x, String what, LongSupplier call, long want) {
        long before = x.digest();
        due(promise, what, call.getAsLong(), want);
        due(promise, what + " changes nothing: digest()", x.digest(), before);
    }

    private static void spell(SpillJoin x, String text) {
        for (char letter : text.toCharArray()) {
            x.letter(letter);
        }
    }

    private static SpillJoin of(String text) {
        SpillJoin x = new SpillJoin();
        spell(x, text);
        x.tables();
        return x;
    }

    private static SpillJoin page(String text) {
        SpillJoin x = new SpillJoin();
        spell(x, text);
        return x;
    }

    private static String sign(int row) {
        return row == NONE ? "-" : "" + row;
    }

    /** What came out, as "left:right". */
    private static String outs(SpillJoin x) {
        StringBuilder text = new StringBuilder();
        for (int n = 0; n < x.ledger(0); n++) {
            text.append(n == 0 ? "" : " ").append(sign(x.out(n, 0))).append(':').append(sign(x.out(n, 1)));
        }
        return text.toString();
    }

    /** What was opened (o) and shut (s), as number/nature. */
    private static String logs(SpillJoin x) {
        StringBuilder text = new StringBuilder();
        for (int n = 0; n < x.ledger(9); n++) {
            text.append(n == 0 ? "" : " ").append(x.log(n, 1) == 1 ? 'o' : 's').append(x.log(n, 0)).append('/').append(x.log(n, 2));
        }
        return text.toString();
    }

    private static String ledgers(SpillJoin x) {
        StringBuilder text = new StringBuilder();
        for (int what = 0; what < 10; what++) {
            text.append(what == 0 ? "" : " ").append(x.ledger(what));
        }
        return text.toString();
    }

    private static String rows(SpillJoin x) {
        StringBuilder text = new StringBuilder();
        for (int side = 0; side < 2; side++) {
            for (int row = 0; row < x.count(side); row++) {
                int key = x.row(side, row, 0);
                text.append(key == NONE ? '-' : (char) ('a' + key));
            }
            text.append(side == 0 ? ";" : "");
        }
        return text.toString();
    }

    private static long fold(long... numbers) {
        long h = 1373;
        for (long number : numbers) {
            h = 31 * h + number;
        }
        return h;
    }

    private static void newObject() {
        SpillJoin x = new SpillJoin();
        int[] counts = {0, 0, 0, NONE, 0, 0, 0, 0, 0, 0};
        for (int what = 0; what < 10; what++) {
            due(1, "count(" + what + ") of a new one", x.count(what), counts[what]);
            due(1, "ledger(" + what + ") of a new one", x.ledger(what), what == 4 ? NONE : 0);
        }
        due(1, "fault()", x.fault(), 0);
        due(1, "row(0, 0, 0)", x.row(0, 0, 0), UNKNOWN);
        due(1, "out(0, 0)", x.out(0, 0), UNKNOWN);
        due(1, "log(0, 0)", x.log(0, 0), UNKNOWN);
        due(1, "sorts(0)", x.sorts(0), 31);
        due(1, "sorts(1)", x.sorts(1), 0);
        due(1, "restore()", x.restore(), STATE);
    }

    private static void letter() {
        SpillJoin x = new SpillJoin();
        due(2, "letter(32)", x.letter(32), 1);
        due(2, "letter(126)", x.letter(126), 2);
        int[] codes = {31, 127, -1, 0, LOWEST, HIGHEST};
        for (int code : codes) {
            still(2, x, "letter(" + code + ")", () -> x.letter(code), OUTSIDE);
        }
        for (int n = 3; n <= 36; n++) {
            due(2, "letter(97)", x.letter(97), n);
        }
        still(2, x, "letter(97), the 37th", () -> x.letter(97), FULL);
        still(2, x, "letter(31), the 37th", () -> x.letter(31), OUTSIDE);
        due(2, "count(8)", x.count(8), 36);
    }

    private static void blank() {
        SpillJoin x = page("2l;a");
        due(3, "blank()", x.blank(), 4);
        due(3, "blank() again", x.blank(), 0);
        due(3, "letter behind blank()", x.letter('9'), 1);
        due(3, "fault() behind blank()", x.fault(), 1);
        SpillJoin y = of("3j;ab;c");
        spell(y, "xyz");
        due(3, "blank()", y.blank(), 3);
        due(3, "rows behind blank()", rows(y), "ab;c");
    }

    private static void fault() {
        String full = "abcdefghijklmn";
        Object[][] pages = {
            {"", 0}, {"0", 0}, {"1", 1}, {"9", 1}, {":", 0}, {"a", 0}, {"2j", 2}, {"2l", 2}, {"2a", 2}, {"2s", 2}, {"2f", 2},
            {"2b", 1}, {"2J", 1}, {"2;", 1}, {"23", 1}, {"2l;", 3}, {"2la", 2}, {"2l-", 2}, {"2l;;", 4}, {"2l;a", 4}, {"2l;p", 4},
            {"2l;q", 3}, {"2l;`", 3}, {"2l;A", 3}, {"2l;-", 4}, {"2l; ", 3}, {"2l;ab;", 6}, {"2l;ab;c", 7}, {"2l;ab;c;", 7},
            {"2l;ab;q", 6}, {"2l;;;", 4}, {"2l;" + full, 17}, {"2l;" + full + "a", 17}, {"2l;" + full + ";", 18},
            {"2l;" + full + ";" + full, 32}, {"2l;" + full + ";" + full + "-", 32}, {"2l;" + full + ";" + full + ";", 32},
            {"2l;x;y", 3}, {"xx", 0}
        };
        for (Object[] row : pages) {
            SpillJoin x = page((String) row[0]);
            still(4, x, "fault() of " + row[0], x::fault, (Integer) row[1]);
        }
    }

    private static void tables() {
        SpillJoin x = page("2l;abp-;-c");
        due(5, "tables()", x.tables(), 6);
        due(5, "rows", rows(x), "abp-;-c");
        due(5, "memory", x.count(2), 2);
        due(5, "kind", x.count(3), 1);
        due(5, "letters of the page then", x.count(8), 0);
        due(5, "how often", x.count(9), 1);
        String kinds = "jlasf";
        for (int kind = 0; kind < 5; kind++) {
            due(5, "kind of " + kinds.charAt(kind), of("9" + kinds.charAt(kind) + ";;").count(3), kind);
        }
        due(5, "memory of 9", of("9j;;").count(2), 9);
        due(5, "tables() without rows", page("1j;;").tables(), 0);
        due(5, "tables() of 28 rows", page("1j;abcdefghijklmn;abcdefghijklmn").tables(), 28);
        String[] none = {"", "2", "2j", "2j;", "2j;ab", "0j;;", "2k;;", "2j;;;", "2j;q;", "2j;;q", "2j;aaaaaaaaaaaaaaa;", "2j;;aaaaaaaaaaaaaaa"};
        for (String text : none) {
            SpillJoin y = of("3f;ab;b");
            y.run(250);
            y.see(1, true);
            spell(y, text);
            still(5, y, "tables() of " + text, y::tables, STATE);
        }
        othersAreGone();
    }

    private static void othersAreGone() {
        SpillJoin x = of("1f;abcd;abcd");
        x.run(250);
        x.see(2, true);
        x.image();
        spell(x, "3a;b;c");
        due(5, "tables() again", x.tables(), 2);
        due(5, "rows", rows(x), "b;c");
        due(5, "memory", x.count(2), 3);
        due(5, "kind", x.count(3), 2);
        due(5, "what the latest run told", ledgers(x), "0 0 0 0 -1 0 0 0 0 0");
        due(5, "out(0, 0)", x.out(0, 0), UNKNOWN);
        due(5, "log(0, 0)", x.log(0, 0), UNKNOWN);
        due(5, "runs that were", x.count(6), 0);
        due(5, "seen", x.count(7), 0);
        due(5, "sorts(0)", x.sorts(0), 31);
        due(5, "restore()", x.restore(), STATE);
        due(5, "how often", x.count(9), 2);
    }

    private static void row() {
        SpillJoin x = of("2l;aab-p;pa-a");
        int[][] dues = {{0, 0, 0, 2}, {0, 1, 0, 2}, {0, 2, 1, 0}, {0, 3, NONE, 0}, {0, 4, 15, 1},
            {1, 0, 15, 1}, {1, 1, 0, 2}, {1, 2, NONE, 0}, {1, 3, 0, 2}};
        for (int[] d : dues) {
            still(6, x, "row(" + d[0] + ", " + d[1] + ", 0)", () -> x.row(d[0], d[1], 0), d[2]);
            still(6, x, "row(" + d[0] + ", " + d[1] + ", 1)", () -> x.row(d[0], d[1], 1), d[3]);
        }
        int[][] unknown = {{2, 0, 0}, {-1, 0, 0}, {0, 5, 0}, {1, 4, 0}, {0, -1, 0}, {0, LOWEST, 1}, {1, HIGHEST, 1}, {HIGHEST, 0, 9}, {0, 5, 2}};
        for (int[] u : unknown) {
            still(6, x, "row(" + u[0] + ", " + u[1] + ", " + u[2] + ")", () -> x.row(u[0], u[1], u[2]), UNKNOWN);
        }
        int[] whats = {2, -1, LOWEST, HIGHEST};
        for (int what : whats) {
            still(6, x, "row(0, 0, " + what + ")", () -> x.row(0, 0, what), OUTSIDE);
        }
    }

    private static void as() {
        String kinds = "jlasf";
        boolean[][] such = {
            {true, false, false, false, false}, {true, true, false, false, false}, {true, false, true, false, false},
            {true, false, false, true, false}, {true, true, false, false, true}};
        for (int kind = 0; kind < 5; kind++) {
            SpillJoin x = of("2" + kinds.charAt(kind) + ";a;b");
            for (int as = 0; as < 5; as++) {
                int asked = as;
                still(7, x, kind + " as(" + as + ")", () -> x.as(asked), such[kind][as] ? kind : NONE);
            }
        }
        SpillJoin x = of("2f;;");
        SpillJoin none = new SpillJoin();
        int[] outside = {5, -1, LOWEST, HIGHEST};
        for (int kind : outside) {
            still(7, x, "as(" + kind + ")", () -> x.as(kind), OUTSIDE);
            still(7, none, "as(" + kind + ") without tables", () -> none.as(kind), OUTSIDE);
        }
        still(7, none, "as(0) without tables", () -> none.as(0), STATE);
    }

    private static void put() {
        SpillJoin x = of("2j;a;");
        due(8, "put(0, 15)", x.put(0, 15), 2);
        due(8, "put(1, -1)", x.put(1, -1), 1);
        due(8, "put(1, 0)", x.put(1, 0), 2);
        due(8, "rows", rows(x), "ap;-a");
        for (int n = 3; n <= 14; n++) {
            due(8, "put(0, 1)", x.put(0, 1), n);
        }
        still(8, x, "put(0, 1), the 15th", () -> x.put(0, 1), FULL);
        still(8, x, "put(0, 16), the 15th", () -> x.put(0, 16), OUTSIDE);
        due(8, "put(1, 5) beside a full side", x.put(1, 5), 3);
        int[] sides = {2, -1, LOWEST, HIGHEST};
        for (int side : sides) {
            still(8, x, "put(" + side + ", 99)", () -> x.put(side, 99), UNKNOWN);
        }
        int[] keys = {16, -2, LOWEST, HIGHEST};
        SpillJoin none = new SpillJoin();
        for (int key : keys) {
            still(8, x, "put(1, " + key + ")", () -> x.put(1, key), OUTSIDE);
            still(8, none, "put(1, " + key + ") without tables", () -> none.put(1, key), OUTSIDE);
        }
        still(8, none, "put(2, 0) without tables", () -> none.put(2, 0), UNKNOWN);
        still(8, none, "put(0, 0) without tables", () -> none.put(0, 0), STATE);
    }

    private static void take() {
        SpillJoin x = of("2j;ab-d;pq".replace('q', 'o'));
        due(9, "take(0, 1)", x.take(0, 1), 1);
        due(9, "rows", rows(x), "a-d;po");
        due(9, "take(0, 1)", x.take(0, 1), NONE);
        due(9, "take(1, 1)", x.take(1, 1), 14);
        due(9, "rows", rows(x), "ad;p");
        int[][] unknown = {{0, 2}, {0, -1}, {1, 1}, {2, 0}, {-1, 0}, {LOWEST, LOWEST}, {HIGHEST, HIGHEST}, {0, HIGHEST}};
        for (int[] u : unknown) {
            still(9, x, "take(" + u[0] + ", " + u[1] + ")", () -> x.take(u[0], u[1]), UNKNOWN);
        }
        due(9, "take(0, 0)", x.take(0, 0), 0);
        due(9, "take(0, 0)", x.take(0, 0), 3);
        still(9, x, "take(0, 0) of none", () -> x.take(0, 0), UNKNOWN);
        SpillJoin full = of("2j;abcdefghijklmn;");
        due(9, "take(0, 0) of 14", full.take(0, 0), 0);
        due(9, "rows", rows(full), "bcdefghijklmn;");
        due(9, "put(0, 0) behind it", full.put(0, 0), 14);
        SpillJoin none = new SpillJoin();
        still(9, none, "take(0, 0) without tables", () -> none.take(0, 0), UNKNOWN);
    }

    private static void key() {
        SpillJoin x = of("2j;ab;-c");
        due(10, "key(0, 1, 15)", x.key(0, 1, 15), 1);
        due(10, "key(1, 0, 0)", x.key(1, 0, 0), NONE);
        due(10, "key(1, 1, -1)", x.key(1, 1, -1), 2);
        due(10, "rows", rows(x), "ap;a-");
        int[][] unknown = {{0, 2, 0}, {0, -1, 0}, {2, 0, 0}, {-1, 0, 99}, {1, 2, 99}, {LOWEST, HIGHEST, LOWEST}};
        for (int[] u : unknown) {
            still(10, x, "key(" + u[0] + ", " + u[1] + ", " + u[2] + ")", () -> x.key(u[0], u[1], u[2]), UNKNOWN);
        }
        int[] keys = {16, -2, LOWEST, HIGHEST};
        for (int key : keys) {
            still(10, x, "key(0, 0, " + key + ")", () -> x.key(0, 0, key), OUTSIDE);
        }
        SpillJoin none = new SpillJoin();
        still(10, none, "key(0, 0, 0) without tables", () -> none.key(0, 0, 0), UNKNOWN);
    }

    private static void memoryAndBe() {
        SpillJoin x = of("2l;ab;c");
        SpillJoin none = new SpillJoin();
        due(11, "memory(1)", x.memory(1), 2);
        due(11, "memory(9)", x.memory(9), 1);
        due(11, "count(2)", x.count(2), 9);
        int[] memories = {0, 10, -1, LOWEST, HIGHEST};
        for (int memory : memories) {
            still(11, x, "memory(" + memory + ")", () -> x.memory(memory), OUTSIDE);
            still(11, none, "memory(" + memory + ") without tables", () -> none.memory(memory), OUTSIDE);
        }
        still(11, none, "memory(1) without tables", () -> none.memory(1), STATE);
        due(12, "be(0)", x.be(0), 1);
        due(12, "be(4)", x.be(4), 0);
        due(12, "count(3)", x.count(3), 4);
        int[] kinds = {5, -1, LOWEST, HIGHEST};
        for (int kind : kinds) {
            still(12, x, "be(" + kind + ")", () -> x.be(kind), OUTSIDE);
            still(12, none, "be(" + kind + ") without tables", () -> none.be(kind), OUTSIDE);
        }
        still(12, none, "be(1) without tables", () -> none.be(1), STATE);
    }

    private static void runRefusals() {
        SpillJoin x = of("2j;aa;aa");
        x.run(250);
        SpillJoin none = new SpillJoin();
        int[] limits = {-1, 251, LOWEST, HIGHEST};
        for (int limit : limits) {
            still(13, x, "run(" + limit + ")", () -> x.run(limit), OUTSIDE);
            still(13, none, "run(" + limit + ") without tables", () -> none.run(limit), OUTSIDE);
        }
        still(13, none, "run(0) without tables", () -> none.run(0), STATE);
        due(13, "count(6)", x.count(6), 1);
        due(13, "run(4)", x.run(4), 4);
        due(13, "run(3)", x.run(3), -2);
        due(13, "count(6) counts what broke off too", x.count(6), 3);
        due(13, "run(250) of 196", of("9f;aaaaaaaaaaaaaa;aaaaaaaaaaaaaa").run(250), 196);
    }

    private static void runAndTell(SpillJoin x, String name, String outs, String ledgers, String logs) {
        int many = outs.isEmpty() ? 0 : outs.split(" ").length;
        due(13, name + " run(250)", x.run(250), many);
        due(14, name + " out()", outs(x), outs);
        due(16, name + " ledger()", ledgers(x), ledgers);
        due(15, name + " log()", logs(x), logs);
    }

    /** Held at once; the kinds, and rows without a key behind all. */
    private static void runHeld() {
        SpillJoin x = of("9j;ab-a;ac-a");
        String[] outs = {"0:0 0:3 3:0 3:3", "0:0 0:3 1:- 3:0 3:3 2:-", "1:- 2:-", "0:- 3:-", "0:0 0:3 1:- 3:0 3:3 -:1 2:- -:2"};
        int[] many = {4, 6, 2, 2, 8};
        for (int kind = 0; kind < 5; kind++) {
            x.be(kind);
            runAndTell(x, "held, kind " + kind, outs[kind], many[kind] + " 0 0 3 0 1 0 0 0 2", "o0/0 s0/0");
        }
        due(13, "run(6), which breaks off behind the turn", x.run(6), -2);
        due(15, "log() of run(6)", logs(x), "o0/0 s0/0");
    }

    private static void runLeftBuilds() {
        SpillJoin x = of("9f;ab;cab");
        runAndTell(x, "left builds", "-:0 0:1 1:2", "3 0 0 2 0 1 0 0 1 2", "o0/0 s0/0");
        x.be(3);
        runAndTell(x, "left builds, semi", "0:- 1:-", "2 0 0 2 0 1 0 0 1 2", "o0/0 s0/0");
        runAndTell(of("9s;a;aa"), "once", "0:-", "1 0 0 1 0 1 0 0 1 2", "o0/0 s0/0");
        runAndTell(of("3f;-;--"), "no part", "0:- -:0 -:1", "3 0 0 0 -1 0 0 0 0 0", "");
        runAndTell(of("3f;;"), "no row", "", "0 0 0 0 -1 0 0 0 0 0", "");
        runAndTell(of("1f;;ab"), "nothing to build of", "-:0 -:1", "2 0 0 0 0 1 0 0 1 2", "o0/0 s0/0");
    }

    private static void runBlocks() {
        SpillJoin x = of("2f;aaa;cabaa");
        String pairs = "0:1 1:1 0:3 1:3 0:4 1:4 2:1 2:3 2:4";
        runAndTell(x, "blocks", pairs + " -:0 -:2", "11 0 10 2 0 0 1 0 1 2", "o0/1 s0/1");
        due(13, "run(3) in the first block", x.run(3), -2);
        due(16, "ledger() of run(3)", ledgers(x), "3 0 5 2 0 0 1 0 1 2");
        due(13, "run(6) at the second block", x.run(6), -2);
        due(16, "ledger() of run(6)", ledgers(x), "6 0 10 2 0 0 1 0 1 2");
        x.be(3);
        runAndTell(x, "blocks, semi", "0:- 1:- 2:-", "3 0 10 2 0 0 1 0 1 2", "o0/1 s0/1");
        due(13, "run(250) of a semi join once more", x.run(250), 3);
        x.be(2);
        runAndTell(x, "blocks, anti", "", "0 0 10 2 0 0 1 0 1 2", "o0/1 s0/1");
        SpillJoin most = of("1j;aaaaaaaaaaaaaa;aaaaaaaaaaaaaa");
        due(13, "14 blocks: run(250)", most.run(250), 196);
        due(14, "14 blocks: out(195, 1)", most.out(195, 1), 13);
        due(16, "14 blocks: ledger()", ledgers(most), "196 0 196 1 0 0 1 0 0 2");
        runAndTell(of("1f;bbb;aa"), "blocks without partners", "0:- 1:- 2:- -:0 -:1", "5 0 6 1 0 0 1 0 0 2", "o0/1 s0/1");
    }

    private static void runSplit() {
        runAndTell(of("2f;abcd;dcbaa"), "like halves, roles turned", "2:1 0:3 0:4 1:2 3:0",
            "5 4 4 2 1 1 0 1 1 8", "o0/2 o1/3 o2/3 o3/0 s3/0 s2/3 s1/3 s0/2");
        runAndTell(of("2j;abdd;abd"), "the half with more stays", "1:1 2:2 3:2 0:0",
            "4 2 2 2 1 1 0 1 0 8", "o0/2 o1/3 o2/3 o3/0 s3/0 s2/3 s1/3 s0/2");
        runAndTell(of("1l;abdd;bd"), "a half without build rows stays", "0:- 1:0 2:1 3:1",
            "4 8 8 1 2 1 0 2 0 14",
            "o0/2 o1/3 o2/3 o3/2 o4/3 o5/3 o6/0 s6/0 s5/3 s4/3 s3/2 s2/3 s1/3 s0/2");
        runAndTell(of("1l;bd;aaa"), "a file without rows", "0:- 1:-",
            "2 2 2 0 1 1 0 1 1 8", "o0/2 o1/3 o2/3 o3/0 s3/0 s2/3 s1/3 s0/2");
    }

    private static void runDeep() {
        SpillJoin x = of("1j;aacc;aacc");
        String opened = "o0/2 o1/3 o2/3 o3/2 o4/3 o5/3 o6/3 o7/3 o8/1 s8/1";
        String shut = " s7/3 s6/3 s5/3 s4/3 s3/2 s2/3 s1/3 s0/2";
        runAndTell(x, "a half left out, then both written", "0:0 1:0 0:1 1:1 2:2 3:2 2:3 3:3",
            "8 16 24 1 2 0 2 2 0 20", opened + " o9/1 s9/1" + shut);
        due(13, "run(5)", x.run(5), -2);
        due(14, "out() of run(5)", outs(x), "0:0 1:0 0:1 1:1 2:2");
        due(15, "log() of run(5)", logs(x), opened + " o9/1 s9/1" + shut);
        due(16, "ledger() of run(5)", ledgers(x), "5 16 22 1 2 0 2 2 0 20");
        due(13, "run(1)", x.run(1), -2);
        due(15, "log() of run(1)", logs(x), opened + shut);
        due(16, "ledger() of run(1)", ledgers(x), "1 16 14 1 2 0 1 2 0 18");
        due(13, "run(8)", x.run(8), 8);
        SpillJoin y = of("1j;aiai;aiai");
        due(13, "level 4: run(250)", y.run(250), 8);
        due(14, "level 4: out()", outs(y), "0:0 2:0 0:2 2:2 1:1 3:1 1:3 3:3");
        due(16, "level 4: ledger()", ledgers(y), "8 32 40 1 4 0 2 4 0 32");
    }

    private static void toldRefusals() {
        SpillJoin x = of("9j;aa;a");
        x.run(250);
        int[] numbers = {2, -1, LOWEST, HIGHEST};
        for (int number : numbers) {
            still(14, x, "out(" + number + ", 0)", () -> x.out(number, 0), UNKNOWN);
            still(14, x, "out(" + number + ", 9)", () -> x.out(number, 9), UNKNOWN);
            still(15, x, "log(" + number + ", 0)", () -> x.log(number, 0), UNKNOWN);
            still(15, x, "log(" + number + ", 9)", () -> x.log(number, 9), UNKNOWN);
        }
        int[] whats = {-1, LOWEST, HIGHEST, 10};
        for (int what : whats) {
            still(14, x, "out(0, " + what + ")", () -> x.out(0, what), OUTSIDE);
            still(15, x, "log(0, " + what + ")", () -> x.log(0, what), OUTSIDE);
            still(16, x, "ledger(" + what + ")", () -> x.ledger(what), OUTSIDE);
        }
        still(14, x, "out(0, 2)", () -> x.out(0, 2), OUTSIDE);
        still(15, x, "log(0, 3)", () -> x.log(0, 3), OUTSIDE);
        x.take(0, 0);
        x.key(0, 0, 5);
        x.memory(1);
        x.be(4);
        due(14, "what the latest run told stays behind other calls", outs(x), "0:0 1:0");
        due(14, "a later run tells anew", x.run(0), -2);
        due(14, "then", outs(x), "");
        due(16, "then", ledgers(x), "0 0 0 1 0 1 0 0 0 2");
    }

    private static void spare() {
        Object[][] dues = {
            {"1j;aacc;aacc", 4}, {"1f;aaa;cabaa", 1}, {"9j;---;abc", 1}, {"3j;;", 1}, {"1j;ab;abc", 2}, {"1j;abc;ab-----", 2},
            {"1j;abcdefghi;abcdefghij", 9}, {"1j;abcdefghij;abcdefghij", NONE}, {"1j;abcdefghij;aaaaaaaaaa", 1},
            {"1j;aaaaaaaaaa;abcdefghij", NONE}, {"1j;aaaaaaaaa;abcdefghij", 1}, {"1j;abcdefghij;abcdefghi-", 9}
        };
        for (Object[] d : dues) {
            SpillJoin x = of((String) d[0]);
            still(17, x, "spare() of " + d[0], x::spare, (Integer) d[1]);
        }
        SpillJoin none = new SpillJoin();
        still(17, none, "spare() without tables", none::spare, STATE);
    }

    private static void seeAndForget() {
        SpillJoin x = of("2j;;");
        for (int n = 1; n <= 6; n++) {
            due(18, "see(0, true)", x.see(0, true), n);
        }
        still(18, x, "see(0, true), the 7th", () -> x.see(0, true), FULL);
        still(18, x, "see(4, true), the 7th", () -> x.see(4, true), OUTSIDE);
        due(18, "count(7)", x.count(7), 6);
        due(18, "sorts(0)", x.sorts(0), 19);
        due(19, "forget()", x.forget(), 6);
        due(19, "forget() again", x.forget(), 0);
        due(19, "sorts(0) then", x.sorts(0), 31);
        due(18, "see(3, true)", x.see(3, true), 1);
        SpillJoin none = new SpillJoin();
        int[] whats = {4, -1, LOWEST, HIGHEST};
        for (int what : whats) {
            still(18, x, "see(" + what + ", false)", () -> x.see(what, false), OUTSIDE);
            still(18, none, "see(" + what + ", false) without tables", () -> none.see(what, false), OUTSIDE);
        }
        still(18, none, "see(0, false) without tables", () -> none.see(0, false), STATE);
        due(19, "forget() without tables", none.forget(), 0);
    }

    private static void sorts() {
        // What is seen ("+" it comes, "-" it does not), the sorts left, what to ask.
        Object[][] dues = {
            {"", 31, 0}, {"0+", 19, 1}, {"0-", 12, 1}, {"1+", 22, 0}, {"1-", 9, 0}, {"2+", 16, 0}, {"2-", 15, 0}, {"3+", 8, 0},
            {"3-", 23, 0}, {"0+1+", 18, 2}, {"0-1-", 8, 0}, {"0+1+2-", 2, 0}, {"0+0-", 0, NONE}, {"2+3+", 0, NONE}, {"0-3-", 4, 0},
            {"2-3-", 7, 0}, {"2-3-0+", 3, 1}
        };
        for (Object[] d : dues) {
            SpillJoin x = of("2j;;");
            String seen = (String) d[0];
            for (int at = 0; at < seen.length(); at += 2) {
                x.see(seen.charAt(at) - '0', seen.charAt(at + 1) == '+');
            }
            still(20, x, "sorts(0) of " + seen, () -> x.sorts(0), (Integer) d[1]);
            still(20, x, "sorts(1) of " + seen, () -> x.sorts(1), (Integer) d[2]);
        }
        SpillJoin x = of("2j;;");
        int[] whats = {2, -1, LOWEST, HIGHEST};
        for (int what : whats) {
            still(20, x, "sorts(" + what + ")", () -> x.sorts(what), OUTSIDE);
        }
    }

    private static void drawn() {
        for (int seed = 1; seed < 60; seed++) {
            drawnOnce(seed);
        }
        SpillJoin x = of("1f;aabb;abab");
        x.run(3);
        drawnTwice(x, 5);
        still(21, x, "drawn(1, 2147483647, 2)", () -> x.drawn(1, HIGHEST, 2), 94299887);
        due(21, "drawn(10, 0, 2) is from 0 to 2 to the 31", x.drawn(10, 0, 2) >= 0 ? 1 : 0, 1);
        int[][] outside = {{0, 1, 0}, {11, 1, 0}, {-1, 1, 0}, {1, -1, 0}, {1, LOWEST, 0}, {1, 1, 3}, {1, 1, -1}, {HIGHEST, HIGHEST, HIGHEST}};
        SpillJoin none = new SpillJoin();
        for (int[] o : outside) {
            still(21, x, "drawn(" + o[0] + ", " + o[1] + ", " + o[2] + ")", () -> x.drawn(o[0], o[1], o[2]), OUTSIDE);
            still(21, none, "drawn(" + o[0] + ", " + o[1] + ", " + o[2] + ") without tables", () -> none.drawn(o[0], o[1], o[2]), OUTSIDE);
        }
        still(21, none, "drawn(1, 0, 2) without tables", () -> none.drawn(1, 0, 2), STATE);
    }

    private static void drawnTwice(SpillJoin x, int seed) {
        int then = x.drawn(1, seed, 2);
        int cameOut = x.drawn(1, seed, 0) + x.drawn(1, then, 0);
        int written = x.drawn(1, seed, 1) + x.drawn(1, then, 1);
        still(21, x, "drawn(2, 5, 0)", () -> x.drawn(2, seed, 0), cameOut);
        still(21, x, "drawn(2, 5, 1)", () -> x.drawn(2, seed, 1), written);
        still(21, x, "drawn(2, 5, 2)", () -> x.drawn(2, seed, 2), x.drawn(1, then, 2));
    }

    /** The rows drawn by hand, spelled out and run: drawn() must tell the same. */
    private static void drawnOnce(int from) {
        long seed = from;
        StringBuilder sides = new StringBuilder();
        for (int n = 0; n < 16; n++) {
            seed = Math.floorMod(1103515245L * seed + 12345L, 2147483648L);
            long draw = Math.floorDiv(seed, 65536L) % 17;
            sides.append(n == 8 ? ";" : "").append(draw == 16 ? '-' : (char) ('a' + draw));
        }
        for (int kind = 0; kind < 5; kind++) {
            SpillJoin spelled = of("2" + "jlasf".charAt(kind) + ";" + sides);
            SpillJoin x = of("2" + "jlasf".charAt(kind) + ";aa;a");
            due(21, "drawn(1, " + from + ", 0)", x.drawn(1, from, 0), spelled.run(250));
            due(21, "drawn(1, " + from + ", 1)", x.drawn(1, from, 1), spelled.ledger(1));
            due(21, "drawn(1, " + from + ", 2)", x.drawn(1, from, 2), seed);
        }
    }

    private static void imageAndRestore() {
        SpillJoin none = new SpillJoin();
        still(22, none, "image() without tables", none::image, STATE);
        still(23, none, "restore() without any", none::restore, STATE);
        SpillJoin x = of("2l;ab-;cd");
        still(23, x, "restore() without an image", x::restore, STATE);
        x.see(1, true);
        still(22, x, "image()", x::image, 5);
        x.put(0, 7);
        x.take(1, 0);
        x.key(0, 2, 9);
        x.memory(9);
        x.be(4);
        x.see(2, false);
        x.run(250);
        spell(x, "12");
        String told = outs(x) + "|" + logs(x) + "|" + ledgers(x);
        due(23, "restore()", x.restore(), 5);
        due(23, "rows", rows(x), "ab-;cd");
        due(23, "memory", x.count(2), 2);
        due(23, "kind", x.count(3), 1);
        due(23, "seen", x.count(7), 1);
        due(23, "sorts(0)", x.sorts(0), 22);
        due(23, "what the latest run told", outs(x) + "|" + logs(x) + "|" + ledgers(x), told);
        due(23, "runs", x.count(6), 1);
        due(23, "letters", x.count(8), 2);
        x.put(1, 1);
        due(23, "restore() once more", x.restore(), 5);
        due(23, "rows", rows(x), "ab-;cd");
        x.take(0, 0);
        due(22, "image() again", x.image(), 4);
        x.forget();
        x.take(0, 0);
        due(23, "restore() of the latest", x.restore(), 4);
        due(23, "rows", rows(x), "b-;cd");
        due(23, "seen", x.count(7), 1);
        due(23, "tables() that is refused", x.tables(), STATE);
        due(23, "restore() behind it", x.restore(), 4);
        x.blank();
        spell(x, "1j;a;a");
        x.tables();
        still(23, x, "restore() behind other tables", x::restore, STATE);
        due(22, "image() of these", x.image(), 2);
        due(23, "restore() of these", x.restore(), 2);
    }

    private static void count() {
        SpillJoin x = of("3s;aab-p;pa-aq".replace('q', 'o'));
        x.run(250);
        x.run(0);
        x.see(0, true);
        spell(x, "xyz");
        int[] counts = {5, 5, 3, 3, 4, 5, 2, 1, 3, 1};
        for (int what = 0; what < 10; what++) {
            int asked = what;
            still(24, x, "count(" + what + ")", () -> x.count(asked), counts[what]);
        }
        due(24, "count(5) of unlike sides", of("1j;a;aba").count(5), 2);
        due(24, "count(4) of unlike sides", of("1j;-;ab-a").count(4), 2);
        int[] whats = {10, -1, LOWEST, HIGHEST};
        for (int what : whats) {
            still(24, x, "count(" + what + ")", () -> x.count(what), OUTSIDE);
        }
    }

    private static void digest() {
        SpillJoin none = new SpillJoin();
        due(25, "digest() of a new one", none.digest(), fold(
            0, 0, 0, 0, -1, 0, 0, 0, 0, 0,
            31, 0,
            0, 0, 0, -1, 0, 0, 0, 0, 0, 0));
        SpillJoin x = of("1l;a-;ab");
        x.run(250);
        x.see(1, false);
        spell(x, "9~");
        // The left row with a key is the build; the other left row comes out behind the turn.
        due(25, "digest()", x.digest(), fold(
            0, 1, -1, 0, 0, 1, 1, 0,
            2, 0, 0, 1, 0, 1, 0, 0, 1, 2,
            0, 0, 1, -1,
            0, 1, 0, 0, 0, 0,
            1,
            9, 0,
            57, 126,
            2, 2, 1, 1, 2, 1, 1, 1, 2, 1));
        due(25, "digest() again", x.digest(), x.digest());
    }

    public static void main(String[] args) {
        newObject();
        letter();
        blank();
        fault();
        tables();
        row();
        as();
        put();
        take();
        key();
        memoryAndBe();
        runRefusals();
        runHeld();
        runLeftBuilds();
        runBlocks();
        runSplit();
        runDeep();
        toldRefusals();
        spare();
        seeAndForget();
        sorts();
        drawn();
        imageAndRestore();
        count();
        digest();
        System.out.println(wrong == 0 ? "all promises are kept" : wrong + " answers are not as due");
        if (wrong != 0) System.exit(1);
    }
}
