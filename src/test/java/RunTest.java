import java.util.ArrayDeque;
import java.util.Deque;

/** Promises 13 to 17, sentence by sentence, with what the document says of a run: answers worked out from it. */
public final class RunTest extends Check {
    public static void main(String[] args) {
        parts();
        held();
        blocks();
        splits();
        residents();
        limits();
        sentence(13, "OUTSIDE: limit (0 to 250)", RunTest::runOutside);
        sentence(13, "STATE: no TABLES", RunTest::runState);
        told();
        ledgersEdges();
        spares();
        end();
    }

    /** A run of these tables without a limit tells this. */
    private static void tells(String text, String outs, String ledgers, String logs) {
        SpillJoin x = of(text);
        due("run(250) of " + text, x.run(250), outs.isEmpty() ? 0 : outs.split(" ").length);
        due("out() of " + text, outs(x), outs);
        due("ledger() of " + text, ledgers(x), ledgers);
        due("log() of " + text, logs(x), logs);
    }

    /** A run that breaks off tells this. */
    private static void breaksOff(String text, int limit, String ledgers, String logs) {
        SpillJoin x = of(text);
        due("run(" + limit + ") of " + text, x.run(limit), -2);
        due("ledger() of run(" + limit + ") of " + text, ledgers(x), ledgers);
        due("log() of run(" + limit + ") of " + text, logs(x), logs);
    }

    private static final String HELD_ALONE = "o0/0 s0/0", BLOCKS_ALONE = "o0/1 s0/1";
    /** A split with one half written, which is held then, or by blocks. */
    private static final String ONE_WRITTEN = "o0/2 o1/3 o2/3 o3/0 s3/0 s2/3 s1/3 s0/2";
    private static final String ONE_WRITTEN_BLOCKS = "o0/2 o1/3 o2/3 o3/1 s3/1 s2/3 s1/3 s0/2";

    // ---- what is a part, what is its build

    private static void parts() {
        sentence(13, "all ROWS that have a KEY are a PART of LEVEL 0 (if there is any)", () -> {
            tells("1f;;", "", "0 0 0 0 -1 0 0 0 0 0", "");
            tells("3f;-;--", "0:- -:0 -:1", "3 0 0 0 -1 0 0 0 0 0", "");
            tells("1f;a;", "0:-", "1 0 0 0 0 1 0 0 0 2", HELD_ALONE);
            tells("1f;;a", "-:0", "1 0 0 0 0 1 0 0 1 2", HELD_ALONE);
        });
        sentence(13, "Then the LEFT ROWS without a KEY COME OUT by their numbers, then the RIGHT ones (if such COME OUT)", () -> {
            String[] outs = {"", "1:- 0:- 2:-", "1:- 0:- 2:-", "", "1:- -:1 0:- 2:- -:0 -:2"};
            String[] many = {"0", "3", "3", "0", "6"};
            for (int kind = 0; kind < 5; kind++) {
                tells("9" + KINDS.charAt(kind) + ";-b-;-c-", outs[kind], many[kind] + " 0 0 1 0 1 0 0 0 2", HELD_ALONE);
            }
        });
        sentence(13, "rows without a key never meet", () -> {
            due("run(250)", of("1j;" + KEYLESS + ";" + KEYLESS).run(250), 0);
            due("run(250)", of("1s;" + KEYLESS + ";" + KEYLESS).run(250), 0);
            due("run(250)", of("1a;" + KEYLESS + ";" + KEYLESS).run(250), 14);
            due("run(250)", of("1f;" + KEYLESS + ";" + KEYLESS).run(250), 28);
        });
        sentence(13, "Its BUILD is the SIDE of which it has fewer ROWS (the RIGHT one, if as many)", () -> {
            tells("9j;ab;ab", "0:0 1:1", "2 0 0 2 0 1 0 0 0 2", HELD_ALONE);
            tells("9j;ab;abc", "0:0 1:1", "2 0 0 2 0 1 0 0 1 2", HELD_ALONE);
            tells("9j;abc;ab", "0:0 1:1", "2 0 0 2 0 1 0 0 0 2", HELD_ALONE);
            tells("9j;a---;bab", "0:1", "1 0 0 1 0 1 0 0 1 2", HELD_ALONE);
            tells("9j;ba-;--a", "1:2", "1 0 0 1 0 1 0 0 0 2", HELD_ALONE);
        });
    }

    // ---- held

    private static void held() {
        sentence(13, "If it has no more BUILD ROWS than the MEMORY, they are HELD", () -> {
            for (int memory = 1; memory <= 9; memory++) {
                String build = UNLIKE.substring(0, memory);
                SpillJoin x = ran(memory + "j;" + UNLIKE + ";" + build, 250);
                due("ledger() of " + memory + " in a memory of as many", ledgers(x), memory + " 0 0 " + memory + " 0 1 0 0 0 2");
                SpillJoin y = ran(memory + "j;" + UNLIKE + ";" + build + "p", 250);
                due("log(0, 2) of one more", y.log(0, 2), 2);
                SpillJoin z = ran(memory + "j;" + UNLIKE + ";" + many("p", memory + 1), 250);
                due("log(0, 2) of one more of one key", z.log(0, 2), 1);
            }
        });
        sentence(13, "PROBE ROW by PROBE ROW, by their numbers, its PAIRS are MET, with BUILD ROWS by their numbers", () -> {
            tells("3j;aaa;aaa", "0:0 0:1 0:2 1:0 1:1 1:2 2:0 2:1 2:2", "9 0 0 3 0 1 0 0 0 2", HELD_ALONE);
            tells("2j;aa;aaa", "0:0 1:0 0:1 1:1 0:2 1:2", "6 0 0 2 0 1 0 0 1 2", HELD_ALONE);
        });
        sentence(13, "right behind them, if it has no PARTNER, the PROBE ROW COMES OUT (if such do)", () -> {
            tells("9l;baca;aa", "0:- 1:0 1:1 2:- 3:0 3:1", "6 0 0 2 0 1 0 0 0 2", HELD_ALONE);
            tells("9f;aa;baca", "-:0 0:1 1:1 -:2 0:3 1:3", "6 0 0 2 0 1 0 0 1 2", HELD_ALONE);
            tells("9l;aa;baca", "0:1 1:1 0:3 1:3", "4 0 0 2 0 1 0 0 1 2", HELD_ALONE);
            tells("9j;baca;aa", "1:0 1:1 3:0 3:1", "4 0 0 2 0 1 0 0 0 2", HELD_ALONE);
        });
        sentence(13, "behind all PROBE ROWS the BUILD ROWS without a PARTNER COME OUT by their numbers (if such do)", () -> {
            tells("9f;aac;bad", "0:1 1:1 2:- -:0 -:2", "5 0 0 3 0 1 0 0 0 2", HELD_ALONE);
            tells("9l;bac;addd", "1:0 0:- 2:-", "3 0 0 3 0 1 0 0 1 2", HELD_ALONE);
            tells("9l;aac;bad", "0:1 1:1 2:-", "3 0 0 3 0 1 0 0 0 2", HELD_ALONE);
            tells("9a;bac;addd", "0:- 2:-", "2 0 0 3 0 1 0 0 1 2", HELD_ALONE);
        });
        sentence(13, "by a SEMI one, its LEFT ROW does, if that did not yet", () -> {
            tells("9s;baa;aaa", "1:- 2:-", "2 0 0 3 0 1 0 0 0 2", HELD_ALONE);
            tells("9s;aba;aaaa", "0:- 2:-", "2 0 0 3 0 1 0 0 1 2", HELD_ALONE);
            tells("1s;aa;caa", "0:- 1:-", "2 0 6 1 0 0 1 0 1 2", BLOCKS_ALONE);
            SpillJoin x = of("9s;aa;aa");
            x.run(250);
            due("run(250) once more", x.run(250), 2);
        });
        sentence(13, "or (ANTI) nothing", () -> {
            tells("9a;aa;aa", "", "0 0 0 2 0 1 0 0 0 2", HELD_ALONE);
            tells("1a;aa;aa", "", "0 0 4 1 0 0 1 0 0 2", BLOCKS_ALONE);
        });
    }

    // ---- by blocks

    /** What comes out if all rows have one key and the right ones are gone through block by block. */
    private static String blockPairs(int left, int right, int memory) {
        StringBuilder pairs = new StringBuilder();
        for (int from = 0; from < right; from += memory) {
            for (int probe = 0; probe < left; probe++) {
                for (int build = from; build < Math.min(right, from + memory); build++) {
                    pairs.append(pairs.length() == 0 ? "" : " ").append(probe).append(':').append(build);
                }
            }
        }
        return pairs.toString();
    }

    private static void blocks() {
        sentence(13, "its BUILD ROWS by their numbers, as many as the MEMORY at a time", () -> {
            for (int memory = 1; memory <= 9; memory++) {
                for (int build = memory + 1; build <= 14; build++) {
                    int read = (build + memory - 1) / memory * 14;
                    SpillJoin x = of(memory + "f;" + many("k", 14) + ";" + many("k", build));
                    x.run(250);
                    String name = build + " in a memory of " + memory;
                    due("ledger() of " + name, ledgers(x), build * 14 + " 0 " + read + " " + memory + " 0 0 1 0 0 2");
                    due("out() of " + name, outs(x), blockPairs(14, build, memory));
                }
            }
            tells("2j;aaa;aaaaa", "0:0 1:0 0:1 1:1 0:2 1:2 0:3 1:3 0:4 1:4 2:0 2:1 2:2 2:3 2:4",
                "15 0 10 2 0 0 1 0 1 2", BLOCKS_ALONE);
        });
        sentence(13, "all its BUILD ROWS have one KEY", () -> {
            tells("1j;aa;bac", "0:1 1:1", "2 0 6 1 0 0 1 0 1 2", BLOCKS_ALONE);
            tells("1j;bac;aa", "1:0 1:1", "2 0 6 1 0 0 1 0 0 2", BLOCKS_ALONE);
            due("log(0, 2) of two keys", ran("1j;bac;ap", 250).log(0, 2), 2);
            due("log(0, 2) of two keys", ran("1j;pa;bac", 250).log(0, 2), 2);
        });
        sentence(13, "behind all BLOCKS the PROBE ROWS without a PARTNER COME OUT by their numbers, then the BUILD ROWS", () -> {
            tells("2f;aaa;cabaa", "0:1 1:1 0:3 1:3 0:4 1:4 2:1 2:3 2:4 -:0 -:2", "11 0 10 2 0 0 1 0 1 2", BLOCKS_ALONE);
            tells("1f;bbb;aa", "0:- 1:- 2:- -:0 -:1", "5 0 6 1 0 0 1 0 0 2", BLOCKS_ALONE);
            tells("1l;aa;bbb", "0:- 1:-", "2 0 6 1 0 0 1 0 1 2", BLOCKS_ALONE);
            tells("1l;cab;aa", "1:0 1:1 0:- 2:-", "4 0 6 1 0 0 1 0 0 2", BLOCKS_ALONE);
            tells("1j;cab;dd", "", "0 0 6 1 0 0 1 0 0 2", BLOCKS_ALONE);
        });
        sentence(13, "if its LEVEL is 4", () -> {
            // Keys 0 and 8 part by bit 3 alone: a half is left out three times, and both are too heavy for the memory then.
            SpillJoin x = ran("1j;aiai;aiai", 250);
            due("out()", outs(x), "0:0 2:0 0:2 2:2 1:1 3:1 1:3 3:3");
            due("ledger()", ledgers(x), "8 32 40 1 4 0 2 4 0 32");
        });
    }

    // ---- split

    private static String twoKeys(int first, int second) {
        String keys = "" + (char) ('a' + first) + (char) ('a' + second);
        return "1j;" + keys + ";" + keys;
    }

    private static void splits() {
        sentence(13, "SPLIT by the bit of the KEY that has the number of its LEVEL (bit 0 is worth 1)", () -> {
            for (int bit = 0; bit < 4; bit++) {
                // Down to this bit one half is left out; by it half 0 stays and half 1, two rows, is written.
                int rows = 4 * bit + 2;
                String due = "2 " + rows + " " + rows + " 1 " + (bit + 1) + " 1 0 " + (bit + 1) + " 0 " + (6 * bit + 8);
                SpillJoin low = ran(twoKeys(0, 1 << bit), 250);
                due("ledger() of bit " + bit, ledgers(low), due);
                due("out() of bit " + bit, outs(low), "0:0 1:1");
                SpillJoin high = ran(twoKeys(15, 15 - (1 << bit)), 250);
                due("ledger() of bit " + bit + " beside others", ledgers(high), due);
                due("out() of bit " + bit + " beside others", outs(high), "1:1 0:0");
            }
        });
        sentence(13, "a HALF without any ROW is left out", () -> {
            String logs = "o0/2 o1/3 o2/3 o3/2 o4/3 o5/3 o6/0 s6/0 s5/3 s4/3 s3/2 s2/3 s1/3 s0/2";
            tells("1j;bd;bd", "0:0 1:1", "2 6 6 1 2 1 0 2 0 14", logs);
            tells("1j;ac;ac", "0:0 1:1", "2 6 6 1 2 1 0 2 0 14", logs);
        });
        sentence(13, "For each other HALF, in order, a FILE is OPENED for its BUILD ROWS, then one for its PROBE ROWS", () -> {
            tells("1j;aabb;aabb", "0:0 1:0 0:1 1:1 2:2 3:2 2:3 3:3", "8 8 16 1 1 0 2 1 0 14",
                "o0/2 o1/3 o2/3 o3/3 o4/3 o5/1 s5/1 o6/1 s6/1 s4/3 s3/3 s2/3 s1/3 s0/2");
            // No probe row is in the half that is written.
            tells("1l;bd;aaa", "0:- 1:-", "2 2 2 0 1 1 0 1 1 8", ONE_WRITTEN);
        });
        sentence(13, "all of its ROWS are READ; it is a PART of a LEVEL 1 more, that has its TURN", () -> {
            // The left side is the lesser one at first, the right one in the half that is read again.
            tells("2f;abcd;dcbaa", "2:1 0:3 0:4 1:2 3:0", "5 4 4 2 1 1 0 1 1 8", ONE_WRITTEN);
            tells("2f;bdfaa;bacaac", "3:1 4:1 -:2 3:3 4:3 3:4 4:4 -:5 0:0 1:- 2:-", "11 4 4 2 1 1 0 1 1 8", ONE_WRITTEN);
        });
        sentence(13, "Then the FILES are SHUT, the latest first. At its end a TURN is SHUT", () ->
            tells("1j;aacc;aacc", "0:0 1:0 0:1 1:1 2:2 3:2 2:3 3:3", "8 16 24 1 2 0 2 2 0 20",
                "o0/2 o1/3 o2/3 o3/2 o4/3 o5/3 o6/3 o7/3 o8/1 s8/1 o9/1 s9/1 s7/3 s6/3 s5/3 s4/3 s3/2 s2/3 s1/3 s0/2"));
        sentence(13, "All that is OPENED has numbers from 0 on, in order", () -> {
            nested("run(250) of the longest", logs(ran(LONGEST, 250)));
            SpillJoin x = of("1j;aacc;aacc");
            for (int memory = 1; memory <= 4; memory++) {
                x.memory(memory);
                x.run(250);
                nested("a run behind others", logs(x));
            }
        });
    }

    /** No tables are known whose run opens and shuts more; found by trying, and so is how much, 122. */
    private static final String LONGEST = "1f;njdgccngbphili;hknplcbgjfaiod";

    /** Opened by the next number, shut the latest first, under the same nature, and nothing stays open. */
    private static void nested(String name, String logs) {
        Deque<String> open = new ArrayDeque<>();
        int next = 0;
        for (String entry : logs.split(" ")) {
            if (entry.charAt(0) == 'o') {
                due(name + ": the number opened in " + entry, Integer.parseInt(entry.substring(1, entry.indexOf('/'))), next++);
                open.push(entry.substring(1));
            } else {
                due(name + ": what is shut", entry.substring(1), open.isEmpty() ? "nothing" : open.pop());
            }
        }
        due(name + ": left open", open.size(), 0);
    }

    private static void residents() {
        sentence(13, "RESIDENT is the HALF that has no more BUILD ROWS than the MEMORY", () -> {
            String outs = "0:0 0:3 3:0 3:3 1:1 1:2 2:1 2:2 4:1 4:2 1:4 2:4 4:4";
            tells("2j;abbab;abbab", outs, "13 6 12 2 1 0 1 1 0 8", ONE_WRITTEN_BLOCKS);
            tells("2j;baaba;baaba", outs, "13 6 12 2 1 0 1 1 0 8", ONE_WRITTEN_BLOCKS);
        });
        sentence(13, "if both have: the one with more of them", () -> {
            tells("2j;abdd;abd", "1:1 2:2 3:2 0:0", "4 2 2 2 1 1 0 1 0 8", ONE_WRITTEN);
            tells("2j;bacc;bac", "1:1 2:2 3:2 0:0", "4 2 2 2 1 1 0 1 0 8", ONE_WRITTEN);
        });
        sentence(13, "of like ones HALF 0", () -> {
            tells("1j;ba;ba", "1:1 0:0", "2 2 2 1 1 1 0 1 0 8", ONE_WRITTEN);
            // Like ones of the build, though half 1 has more probe rows.
            tells("1j;babb;ba", "1:1 0:0 2:0 3:0", "4 4 4 1 1 1 0 1 0 8", ONE_WRITTEN);
        });
        sentence(13, "none, if neither has", () ->
            tells("1l;bbaac;bbaa", "2:2 3:2 2:3 3:3 4:- 0:0 1:0 0:1 1:1", "9 9 19 1 1 0 2 1 0 14",
                "o0/2 o1/3 o2/3 o3/3 o4/3 o5/1 s5/1 o6/1 s6/1 s4/3 s3/3 s2/3 s1/3 s0/2"));
        sentence(13, "none, if it is left out", () -> {
            due("ledger(3)", ran("1j;bd;bd", 1).ledger(3), 1);
            breaksOff("1j;bd;bd", 0, "0 6 4 1 1 0 0 2 0 12",
                "o0/2 o1/3 o2/3 o3/2 o4/3 o5/3 s5/3 s4/3 s3/2 s2/3 s1/3 s0/2");
        });
        sentence(13, "a HALF that has PROBE ROWS alone is RESIDENT, too", () -> {
            String logs = "o0/2 o1/3 o2/3 o3/2 o4/3 o5/3 o6/0 s6/0 s5/3 s4/3 s3/2 s2/3 s1/3 s0/2";
            tells("1l;abdd;bd", "0:- 1:0 2:1 3:1", "4 8 8 1 2 1 0 2 0 14", logs);
            tells("1l;bacc;ac", "0:- 1:0 2:1 3:1", "4 8 8 1 2 1 0 2 0 14", logs);
        });
        sentence(13, "the RESIDENT HALF is HELD, as above (with the same BUILD)", () ->
            // Half 0 has as many rows of both sides, but the build stays the left one.
            tells("2j;aab;aabbb", "0:0 1:0 0:1 1:1 2:2 2:3 2:4", "7 4 4 2 1 1 0 1 2 8", ONE_WRITTEN));
    }

    // ---- limits

    private static void limits() {
        sentence(13, "how many CAME OUT; -2: it BREAKS OFF", () -> {
            due("run(0) where nothing comes out", of("1j;a;b").run(0), 0);
            due("run(0) without rows", of("1f;;").run(0), 0);
            due("run(0) where one comes out", of("1j;a;a").run(0), -2);
            due("run(1) where one comes out", of("1j;a;a").run(1), 1);
            due("run(0) of a row without a key", of("1f;;-").run(0), -2);
            SpillJoin most = of("9j;" + ALIKE + ";" + ALIKE);
            due("run(195) of the most", most.run(195), -2);
            due("run(196) of the most", most.run(196), 196);
            due("run(250) of the most", most.run(250), 196);
        });
        sentence(13, "as many as the LIMIT CAME OUT", RunTest::everyLimit);
        sentence(13, "nothing more is done: in a HALF that is HELD", () -> {
            String logs = "o0/2 o1/3 o2/3 s2/3 s1/3 s0/2";
            breaksOff("2j;abbab;abbab", 0, "0 6 0 2 0 0 0 1 0 6", logs);
            breaksOff("2j;abbab;abbab", 3, "3 6 0 2 0 0 0 1 0 6", logs);
            breaksOff("9f;ab;cd", 0, "0 0 0 2 0 1 0 0 0 2", HELD_ALONE);
            breaksOff("9f;ab;cd", 2, "2 0 0 2 0 1 0 0 0 2", HELD_ALONE);
        });
        sentence(13, "nothing more is done: in a BLOCK", () -> {
            breaksOff("2j;abbab;abbab", 4, "4 6 9 2 1 0 1 1 0 8", ONE_WRITTEN_BLOCKS);
            breaksOff("2j;abbab;abbab", 9, "9 6 9 2 1 0 1 1 0 8", ONE_WRITTEN_BLOCKS);
            breaksOff("2j;abbab;abbab", 10, "10 6 12 2 1 0 1 1 0 8", ONE_WRITTEN_BLOCKS);
            breaksOff("2j;abbab;abbab", 12, "12 6 12 2 1 0 1 1 0 8", ONE_WRITTEN_BLOCKS);
        });
        sentence(13, "nothing more is done: behind all BLOCKS", () -> {
            breaksOff("2f;aaa;cabaa", 9, "9 0 10 2 0 0 1 0 1 2", BLOCKS_ALONE);
            breaksOff("2f;aaa;cabaa", 10, "10 0 10 2 0 0 1 0 1 2", BLOCKS_ALONE);
            breaksOff("1f;bbb;aa", 4, "4 0 6 1 0 0 1 0 0 2", BLOCKS_ALONE);
        });
        sentence(13, "nothing more is done but that all that is OPENED is SHUT, the latest first", () -> {
            String opened = "o0/2 o1/3 o2/3 o3/2 o4/3 o5/3 o6/3 o7/3 o8/1 s8/1";
            String shut = " s7/3 s6/3 s5/3 s4/3 s3/2 s2/3 s1/3 s0/2";
            breaksOff("1j;aacc;aacc", 1, "1 16 14 1 2 0 1 2 0 18", opened + shut);
            breaksOff("1j;aacc;aacc", 3, "3 16 16 1 2 0 1 2 0 18", opened + shut);
            breaksOff("1j;aacc;aacc", 4, "4 16 22 1 2 0 2 2 0 20", opened + " o9/1 s9/1" + shut);
        });
        sentence(13, "a RUN that breaks off among the ROWS without a KEY", () -> {
            breaksOff("9f;-a-;-b-", 2, "2 0 0 1 0 1 0 0 0 2", HELD_ALONE);
            breaksOff("9f;-a-;-b-", 5, "5 0 0 1 0 1 0 0 0 2", HELD_ALONE);
            due("run(6)", of("9f;-a-;-b-").run(6), 6);
            breaksOff("9f;--;--", 2, "2 0 0 0 -1 0 0 0 0 0", "");
        });
        sentence(13, "a RUN behind one that broke off is whole", () -> {
            SpillJoin x = ran("2j;abbab;abbab", 3);
            due("run(250)", x.run(250), 13);
            due("ledger()", ledgers(x), "13 6 12 2 1 0 1 1 0 8");
            due("log()", logs(x), ONE_WRITTEN_BLOCKS);
        });
    }

    /** By each limit comes out what comes out first by none. */
    private static void everyLimit() {
        String[] texts = {LONGEST, "1f;aabbc-;bcca-", "3s;aaaaabbbb;abababab", "2a;abcdefgh;hgi-", "1l;aaaa;aaaaa"};
        for (String text : texts) {
            SpillJoin whole = ran(text, 250);
            String all = outs(whole);
            int many = whole.ledger(0);
            for (int limit = 0; limit <= many + 1; limit++) {
                SpillJoin x = of(text);
                String name = "run(" + limit + ") of " + text;
                due(name, x.run(limit), limit < many ? -2 : many);
                due("ledger(0) of " + name, x.ledger(0), Math.min(limit, many));
                due("out() of " + name + " as by none", all.startsWith(outs(x)) ? 1 : 0, 1);
                nested(name, logs(x));
            }
        }
    }

    private static void runOutside() {
        int[] limits = {-1, 251, LOWEST, HIGHEST};
        for (int limit : limits) {
            still("run(" + limit + ")", Check::rich, x -> x.run(limit), OUTSIDE);
            still("run(" + limit + ") without tables", Check::bare, x -> x.run(limit), OUTSIDE);
        }
        due("run(0)", rich().run(0), -2);
        due("run(250)", rich().run(250), 6);
    }

    private static void runState() {
        still("run(0) without tables", Check::bare, x -> x.run(0), STATE);
        still("run(250) without tables", Check::bare, x -> x.run(250), STATE);
    }

    // ---- what the latest run told

    private static void told() {
        sentence(14, "What CAME OUT, from 0 on: what = 0 the LEFT ROW (NONE), 1 the RIGHT ROW (NONE)", RunTest::outTells);
        sentence(14, "UNKNOWN: there are not so many", RunTest::outUnknown);
        sentence(14, "OUTSIDE", RunTest::outOutside);
        sentence(15, "in order, from 0 on: what = 0 its number, 1 whether it was OPENED (1) or SHUT (0), 2 what it is", RunTest::logTells);
        sentence(15, "UNKNOWN: there is not so much", RunTest::logUnknown);
        sentence(15, "OUTSIDE", RunTest::logOutside);
        sentence(14, "what the latest run told stays as it is until the next one", RunTest::toldStays);
    }

    private static SpillJoin ranFull() {
        return richly("1f;ab;acc", 250);
    }

    private static void outTells() {
        // Left builds and is split: half 0 stays; left row 1 is read again.
        int[][] dues = {{0, 0}, {NONE, 1}, {NONE, 2}, {1, NONE}};
        for (int n = 0; n < 4; n++) {
            int number = n;
            still("out(" + n + ", 0)", RunTest::ranFull, x -> x.out(number, 0), dues[n][0]);
            still("out(" + n + ", 1)", RunTest::ranFull, x -> x.out(number, 1), dues[n][1]);
        }
        // Blocks of one right row each.
        SpillJoin most = ran("1j;" + ALIKE + ";" + ALIKE, 250);
        for (int n = 0; n < 196; n++) {
            due("out(" + n + ", 0) of the most", most.out(n, 0), n % 14);
            due("out(" + n + ", 1) of the most", most.out(n, 1), n / 14);
        }
    }

    private static void outUnknown() {
        int[] numbers = {4, -1, 250, LOWEST, HIGHEST};
        for (int number : numbers) {
            for (int w = -1; w <= 2; w++) {
                int what = w;
                still("out(" + number + ", " + what + ")", RunTest::ranFull, x -> x.out(number, what), UNKNOWN);
            }
        }
        still("out(0, 0) ahead of any run", () -> of("1f;ab;acc"), x -> x.out(0, 0), UNKNOWN);
        still("out(0, 0) without tables", Check::bare, x -> x.out(0, 0), UNKNOWN);
        still("out(0, 0) where nothing came out", () -> ran("1j;a;b", 250), x -> x.out(0, 0), UNKNOWN);
        due("out(2, 0) by a limit of 3", ran("1f;ab;acc", 3).out(2, 0), NONE);
        still("out(3, 0) by a limit of 3", () -> ran("1f;ab;acc", 3), x -> x.out(3, 0), UNKNOWN);
        still("out(0, 0) by a limit of 0", () -> ran("1f;ab;acc", 0), x -> x.out(0, 0), UNKNOWN);
        still("out(196, 0) of the most", () -> ran("9j;" + ALIKE + ";" + ALIKE, 250), x -> x.out(196, 0), UNKNOWN);
    }

    private static void outOutside() {
        int[] whats = {2, -1, LOWEST, HIGHEST};
        for (int what : whats) {
            still("out(0, " + what + ")", RunTest::ranFull, x -> x.out(0, what), OUTSIDE);
            still("out(3, " + what + ")", RunTest::ranFull, x -> x.out(3, what), OUTSIDE);
            still("out(2, " + what + ") of one that broke off", Check::rich, x -> x.out(2, what), OUTSIDE);
        }
    }

    private static void logTells() {
        int[][] dues = {{0, 1, 2}, {1, 1, 3}, {2, 1, 3}, {3, 1, 0}, {3, 0, 0}, {2, 0, 3}, {1, 0, 3}, {0, 0, 2}};
        for (int n = 0; n < 8; n++) {
            for (int w = 0; w < 3; w++) {
                int number = n, what = w;
                still("log(" + n + ", " + w + ")", RunTest::ranFull, x -> x.log(number, what), dues[n][w]);
            }
        }
        due("log(0, 2) by blocks", ran("1j;aa;aa", 250).log(0, 2), 1);
        due("log(1, 2) by blocks", ran("1j;aa;aa", 250).log(1, 2), 1);
        SpillJoin longest = ran(LONGEST, 250);
        due("ledger(9) of the longest", longest.ledger(9), 122);
        due("log(121, 0) of the longest", longest.log(121, 0), 0);
        due("log(121, 1) of the longest", longest.log(121, 1), 0);
        due("log(121, 2) of the longest", longest.log(121, 2), 2);
    }

    private static void logUnknown() {
        int[] numbers = {8, -1, 200, LOWEST, HIGHEST};
        for (int number : numbers) {
            for (int w = -1; w <= 3; w++) {
                int what = w;
                still("log(" + number + ", " + what + ")", RunTest::ranFull, x -> x.log(number, what), UNKNOWN);
            }
        }
        still("log(0, 0) ahead of any run", () -> of("1f;ab;acc"), x -> x.log(0, 0), UNKNOWN);
        still("log(0, 0) without tables", Check::bare, x -> x.log(0, 0), UNKNOWN);
        still("log(0, 0) where no part was", () -> ran("1f;-;-", 250), x -> x.log(0, 0), UNKNOWN);
        still("log(2, 0) of one that was held", () -> ran("1f;a;a", 250), x -> x.log(2, 0), UNKNOWN);
        still("log(122, 0) of the longest", () -> ran(LONGEST, 250), x -> x.log(122, 0), UNKNOWN);
    }

    private static void logOutside() {
        int[] whats = {3, -1, LOWEST, HIGHEST};
        for (int what : whats) {
            still("log(0, " + what + ")", RunTest::ranFull, x -> x.log(0, what), OUTSIDE);
            still("log(7, " + what + ")", RunTest::ranFull, x -> x.log(7, what), OUTSIDE);
            still("log(0, " + what + ") of one that broke off", Check::rich, x -> x.log(0, what), OUTSIDE);
        }
    }

    private static void toldStays() {
        SpillJoin x = ranFull();
        String told = outs(x) + "|" + logs(x) + "|" + ledgers(x);
        x.take(0, 0);
        x.put(1, 4);
        x.key(1, 0, 5);
        x.memory(9);
        x.be(2);
        x.see(0, true);
        x.forget();
        x.drawn(3, 3, 0);
        x.image();
        x.restore();
        x.letter('a');
        x.blank();
        due("told behind other calls", outs(x) + "|" + logs(x) + "|" + ledgers(x), told);
        due("run(0)", x.run(0), -2);
        due("out() then", outs(x), "");
        due("ledger() then", ledgers(x), "0 0 0 1 0 1 0 0 1 2");
        due("log() then", logs(x), HELD_ALONE);
    }

    // ---- the ledger

    private static void ledgersEdges() {
        sentence(16, "what = 0 how many CAME OUT .. 9 how much was OPENED and SHUT", () -> {
            String[] dues = "4 1 1 1 1 1 0 1 1 8".split(" ");
            for (int w = 0; w < 10; w++) {
                int what = w;
                still("ledger(" + w + ")", RunTest::ranFull, x -> x.ledger(what), Integer.parseInt(dues[w]));
            }
        });
        sentence(16, "3 the most that were in the MEMORY (HELD, or in a BLOCK) at once", () -> {
            due("none", ran("9j;---;--", 250).ledger(3), 0);
            due("of a side without rows", ran("9j;abc;", 250).ledger(3), 0);
            due("fewer than the memory", ran("9j;abc;abc", 250).ledger(3), 3);
            due("as much as the memory", ran("9j;" + UNLIKE + ";abcdefghi", 250).ledger(3), 9);
            due("of a block", ran("9j;" + ALIKE + ";" + ALIKE, 250).ledger(3), 9);
            due("of a half, more than of the part behind", ran("2j;abdd;abd", 250).ledger(3), 2);
            due("of a part, more than of the half ahead", ran("3j;acegb;acegb", 250).ledger(3), 2);
        });
        sentence(16, "4 the greatest LEVEL of a PART (NONE: there was none)", () -> {
            due("none", ran("1j;-;-", 250).ledger(4), NONE);
            due("ahead of any run", of("1j;a;a").ledger(4), NONE);
            due("0", ran("1j;a;", 250).ledger(4), 0);
            due("of a later half that is less deep", ran("1j;aaiibb;aaiibb", 250).ledger(4), 4);
            due("not begun yet, as it broke off", ran("1j;ab;ab", 0).ledger(4), 0);
            SpillJoin x = ran("1j;aiai;aiai", 250);
            due("4", x.ledger(4), 4);
            x.take(0, 0);
            x.take(0, 0);
            x.take(0, 0);
            x.take(0, 0);
            x.run(250);
            due("of the latest run alone", x.ledger(4), 0);
        });
        sentence(16, "OUTSIDE", () -> {
            int[] whats = {10, -1, LOWEST, HIGHEST};
            for (int what : whats) {
                still("ledger(" + what + ")", Check::rich, x -> x.ledger(what), OUTSIDE);
                still("ledger(" + what + ") without tables", Check::bare, x -> x.ledger(what), OUTSIDE);
            }
        });
    }

    // ---- spare

    private static void spares() {
        sentence(17, "SPARE: the least MEMORY (1 to 9) by which nothing would be WRITTEN", () -> {
            for (int rows = 1; rows <= 9; rows++) {
                String build = UNLIKE.substring(0, rows);
                still("spare() of " + rows, () -> of("1j;" + build + ";" + UNLIKE), SpillJoin::spare, rows);
                still("spare() of " + rows, () -> of("9f;" + UNLIKE + ";" + build), SpillJoin::spare, rows);
            }
            due("spare() without rows", of("9j;;").spare(), 1);
            due("spare() without keys", of("9j;---;abc").spare(), 1);
            due("spare() of a side without rows", of("9j;;" + UNLIKE).spare(), 1);
            due("spare() of two keys, one of them heavy", of("1j;aaab;aaab").spare(), 4);
        });
        sentence(17, "by BLOCKS nothing is WRITTEN", () -> {
            due("spare() of one key", of("9j;" + ALIKE + ";" + ALIKE).spare(), 1);
            due("spare() of one key on the build", of("1j;" + UNLIKE + ";" + ALIKE).spare(), 1);
            due("spare() of one key on the probe", of("1j;" + ALIKE + ";" + UNLIKE).spare(), NONE);
            due("spare() of a build of one key", of("1j;aa;abc").spare(), 1);
        });
        sentence(17, "SPARE; NONE", () -> {
            still("spare() of 10", () -> of("9j;abcdefghij;" + UNLIKE), SpillJoin::spare, NONE);
            still("spare() of 14", () -> of("9j;" + UNLIKE + ";" + UNLIKE), SpillJoin::spare, NONE);
            due("spare() of 10 by two keys", of("9j;aaaaaaaaab;aaaaaaaaab").spare(), NONE);
        });
        sentence(17, "SPARE: whatever the MEMORY and the KIND are, in a RUN without a LIMIT", () -> {
            SpillJoin x = of("1j;abcde;edcb");
            for (int memory = 1; memory <= 9; memory++) {
                x.memory(memory);
                for (int kind = 0; kind < 5; kind++) {
                    x.be(kind);
                    x.run(0);
                    due("spare()", x.spare(), 4);
                    due("count(2)", x.count(2), memory);
                }
            }
        });
        sentence(17, "SPARE is what a RUN then tells", () -> {
            String[] texts = {LONGEST, "1j;aabbcc;abcabc", "2f;pp--;ppp", "3s;abcdefghijk;ijklmno", "1l;a-b;c-"};
            for (String text : texts) {
                int least = NONE;
                for (int memory = 9; memory >= 1; memory--) {
                    SpillJoin x = of(text);
                    x.memory(memory);
                    x.run(250);
                    least = x.ledger(1) == 0 ? memory : least;
                }
                due("spare() of " + text, of(text).spare(), least);
            }
        });
        sentence(17, "STATE: no TABLES", () -> still("spare() without tables", Check::bare, SpillJoin::spare, STATE));
    }
}
