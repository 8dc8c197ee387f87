import java.math.BigInteger;

/** Promises 18 to 25, sentence by sentence: what is seen, what is drawn, and what is told of all. */
public final class WholeTest extends Check {
    public static void main(String[] args) {
        sentence(18, "It is SEEN: how much is", WholeTest::seeIsCounted);
        sentence(18, "OUTSIDE: what (0 to 3)", WholeTest::seeOutside);
        sentence(18, "STATE: no TABLES", WholeTest::seeState);
        sentence(18, "FULL: SEEN (6 at most)", WholeTest::seeFull);
        sentence(19, "Nothing is SEEN any more: how much was", WholeTest::forgetTells);
        sentence(20, "SORTS (KINDS 0 to 4) it can be of, so that all that is SEEN is so: as bits", WholeTest::sortsLeft);
        sentence(20, "ASK: so that fewest of these are left at worst: of like ones the least", WholeTest::askNext);
        sentence(20, "none, if there are none", WholeTest::noneToAsk);
        sentence(20, "OUTSIDE", WholeTest::sortsOutside);
        draws();
        images();
        countsOfAll();
        sentence(25, "for each of these numbers, in order, 31 times h, and it", WholeTest::digestOfAll);
        sentence(25, "with TABLES spare()", WholeTest::digestWithoutTables);
        sentence(25, "letters of THE PAGE", WholeTest::digestOfThePage);
        sentence(25, "as longs, wrapping", WholeTest::digestWraps);
        sentence(25, "digest() changes nothing", WholeTest::digestIsStill);
        sentence(25, "An object is used for at most 512 calls", WholeTest::allCallsOfAnObject);
        end();
    }

    // ---- 18, 19

    private static void seeIsCounted() {
        for (int what = 0; what <= 3; what++) {
            SpillJoin x = of("2j;;");
            for (int n = 1; n <= 6; n++) {
                due("see(" + what + ", ..)", x.see(what, n % 2 == 0), n);
                due("count(7)", x.count(7), n);
            }
        }
    }

    private static SpillJoin seen(String text) {
        SpillJoin x = richly("2f;ab;b", 1);
        x.forget();
        for (int at = 0; at < text.length(); at += 2) {
            x.see(text.charAt(at) - '0', text.charAt(at + 1) == '+');
        }
        return x;
    }

    private static final String SIX = "0+1+2-3-0+1+";

    private static void seeOutside() {
        int[] whats = {4, -1, 5, LOWEST, HIGHEST};
        for (int what : whats) {
            still("see(" + what + ", true)", Check::rich, x -> x.see(what, true), OUTSIDE);
            still("see(" + what + ", false) without tables", Check::bare, x -> x.see(what, false), OUTSIDE);
            still("see(" + what + ", true), the 7th", () -> seen(SIX), x -> x.see(what, true), OUTSIDE);
        }
    }

    private static void seeState() {
        for (int w = 0; w <= 3; w++) {
            int what = w;
            still("see(" + what + ", true) without tables", Check::bare, x -> x.see(what, true), STATE);
            still("see(" + what + ", false) without tables", Check::bare, x -> x.see(what, false), STATE);
        }
    }

    private static void seeFull() {
        due("see(3, false), the 6th", seen("0+1+2-3-0+").see(3, false), 6);
        for (int w = 0; w <= 3; w++) {
            int what = w;
            still("see(" + what + ", true), the 7th", () -> seen(SIX), x -> x.see(what, true), FULL);
            still("see(" + what + ", false), the 7th", () -> seen(SIX), x -> x.see(what, false), FULL);
        }
        SpillJoin x = seen(SIX);
        x.forget();
        due("see(0, true) behind forget()", x.see(0, true), 1);
    }

    private static void forgetTells() {
        still("forget() of nothing", () -> seen(""), x -> x.forget(), 0);
        still("forget() without tables", Check::bare, x -> x.forget(), 0);
        for (int many = 1; many <= 6; many++) {
            SpillJoin x = seen(SIX.substring(0, 2 * many));
            due("forget()", x.forget(), many);
            due("what is told behind it", story(x), story(seen("")));
        }
        SpillJoin x = rich();
        x.forget();
        due("count() behind forget()", counts(x), counts(rich()).replaceAll("2 7 1$", "0 7 1"));
        due("restore() brings back what was seen", x.restore() * 10 + x.count(7), 81);
    }

    // ---- 20

    /** What is seen ("+" it comes, "-" it does not), the sorts left, what to ask then. */
    private static final Object[][] SORTS = {
        {"", 31, 0}, {"0+", 19, 1}, {"0-", 12, 1}, {"1+", 22, 0}, {"1-", 9, 0}, {"2+", 16, 0}, {"2-", 15, 0}, {"3+", 8, 0}, {"3-", 23, 0},
        {"0+1+", 18, 2}, {"0+1-", 1, 0}, {"0-1+", 4, 0}, {"0-1-", 8, 0}, {"0+2-", 3, 1}, {"1+2-", 6, 0}, {"0-3-", 4, 0}, {"2-3-", 7, 0},
        {"1-3-", 1, 0}, {"0+1+2-", 2, 0}, {"0+1+2+", 16, 0}, {"2-3-0+", 3, 1}, {"0+0+0+0+0+0+", 19, 1}, {"0+1+2-3-0+1+", 2, 0}
    };

    private static void sortsLeft() {
        for (Object[] d : SORTS) {
            still("sorts(0) of " + d[0], () -> seen((String) d[0]), x -> x.sorts(0), (Integer) d[1]);
        }
        due("sorts(0) without tables", bare().sorts(0), 31);
        // A kind and what was seen of it, all that comes: it is left, alone unless another shows the same.
        String[] all = {"0+1-2-3-", "0+1+2-3-", "0-1+2-3-", "0-1-2-3+", "0+1+2+3-"};
        for (int kind = 0; kind < 5; kind++) {
            due("sorts(0) of all that kind " + kind + " shows", seen(all[kind]).sorts(0), 1 << kind);
        }
    }

    private static void askNext() {
        for (Object[] d : SORTS) {
            still("sorts(1) of " + d[0], () -> seen((String) d[0]), x -> x.sorts(1), (Integer) d[2]);
        }
        due("sorts(1) without tables", bare().sorts(1), 0);
    }

    private static void noneToAsk() {
        String[] never = {"0+0-", "1-1+", "2+2-", "3+3-", "2+3+", "0+3+", "1+3+", "0-2+", "1-2+", "0-1-3-", "0+1-2+3-0+1-"};
        for (String text : never) {
            still("sorts(0) of " + text, () -> seen(text), x -> x.sorts(0), 0);
            still("sorts(1) of " + text, () -> seen(text), x -> x.sorts(1), NONE);
        }
    }

    private static void sortsOutside() {
        int[] whats = {2, -1, LOWEST, HIGHEST};
        for (int what : whats) {
            still("sorts(" + what + ")", Check::rich, x -> x.sorts(what), OUTSIDE);
            still("sorts(" + what + ") without tables", Check::bare, x -> x.sorts(what), OUTSIDE);
        }
    }

    // ---- 21

    private static void draws() {
        sentence(21, "so many RUNS with the MEMORY and the KIND as they are, each with eight LEFT ROWS, then eight RIGHT ROWS", WholeTest::drawnOnce);
        sentence(21, "times (1 to 10): in all", WholeTest::drawnTimes);
        sentence(21, "its rest by 2 to the 31", WholeTest::drawnComesRound);
        sentence(21, "a DRAW of 17 (16: none)", WholeTest::drawnWithoutKeys);
        sentence(21, "as they would be: it changes nothing", WholeTest::drawnIsStill);
        sentence(21, "OUTSIDE: times (1 to 10), seed (0 at least), what", WholeTest::drawnOutside);
        sentence(21, "STATE: no TABLES", WholeTest::drawnState);
    }

    private static final BigInteger ROUND = BigInteger.ONE.shiftLeft(31);

    private static long nextSeed(long seed) {
        return BigInteger.valueOf(seed).multiply(BigInteger.valueOf(1103515245)).add(BigInteger.valueOf(12345)).mod(ROUND).longValue();
    }

    /** The rows that a seed draws, spelled out, and the seed then. */
    private static Object[] drawnRows(long from) {
        long seed = from;
        StringBuilder sides = new StringBuilder();
        for (int n = 0; n < 16; n++) {
            seed = nextSeed(seed);
            long draw = seed / 65536 % 17;
            sides.append(n == 8 ? ";" : "").append(draw == 16 ? '-' : (char) ('a' + draw));
        }
        return new Object[] {sides.toString(), seed};
    }

    private static void drawnOnce() {
        int[] seeds = {0, 1, 2, 77, 65535, 65536, 1 << 30, HIGHEST - 1, HIGHEST};
        for (int from : seeds) {
            Object[] drawn = drawnRows(from);
            for (int kind = 0; kind < 5; kind++) {
                int memory = 1 + (from + kind & 7);
                SpillJoin spelled = of("" + memory + KINDS.charAt(kind) + ";" + drawn[0]);
                SpillJoin x = of("9j;aa;a");
                x.memory(memory);
                x.be(kind);
                due("drawn(1, " + from + ", 0)", x.drawn(1, from, 0), spelled.run(250));
                due("drawn(1, " + from + ", 1)", x.drawn(1, from, 1), spelled.ledger(1));
                due("drawn(1, " + from + ", 2)", x.drawn(1, from, 2), (Long) drawn[1]);
            }
        }
    }

    private static void drawnTimes() {
        SpillJoin x = of("1f;aabb;abab");
        int seed = 5, cameOut = 0, written = 0;
        for (int times = 1; times <= 10; times++) {
            cameOut += x.drawn(1, seed, 0);
            written += x.drawn(1, seed, 1);
            seed = x.drawn(1, seed, 2);
            due("drawn(" + times + ", 5, 0)", x.drawn(times, 5, 0), cameOut);
            due("drawn(" + times + ", 5, 1)", x.drawn(times, 5, 1), written);
            due("drawn(" + times + ", 5, 2)", x.drawn(times, 5, 2), seed);
        }
    }

    /** The seed from which the draws of so many runs end with this one. */
    private static int seedAhead(long then, int times) {
        BigInteger back = BigInteger.valueOf(1103515245).modInverse(ROUND);
        BigInteger seed = BigInteger.valueOf(then);
        for (int n = 0; n < 16 * times; n++) {
            seed = seed.subtract(BigInteger.valueOf(12345)).multiply(back).mod(ROUND);
        }
        return seed.intValueExact();
    }

    private static void drawnComesRound() {
        SpillJoin x = of("3f;;");
        long[] thens = {0, 1, HIGHEST, HIGHEST - 1L, 1 << 30, 12345};
        for (long then : thens) {
            due("the seed then is " + then, x.drawn(1, seedAhead(then, 1), 2), then);
            due("the seed then is " + then, x.drawn(10, seedAhead(then, 10), 2), then);
        }
        due("drawn(1, 2147483647, 2)", x.drawn(1, HIGHEST, 2), 94299887);
    }

    private static void drawnWithoutKeys() {
        // Seeds are tried until one draws a row without a key, which comes out alone by a full join.
        int found = 0;
        for (int seed = 0; seed < 40; seed++) {
            String rows = (String) drawnRows(seed)[0];
            found += rows.indexOf('-') >= 0 ? 1 : 0;
            due("drawn(1, " + seed + ", 0) of " + rows, of("9f;;").drawn(1, seed, 0), of("9f;" + rows).run(250));
        }
        due("a seed draws a row without a key", found > 0 ? 1 : 0, 1);
    }

    private static void drawnIsStill() {
        for (int w = 0; w <= 2; w++) {
            int what = w;
            still("drawn(10, 77, " + what + ")", Check::rich, x -> x.drawn(10, 77, what), rich().drawn(10, 77, what));
        }
        due("drawn(10, 77, 2)", rich().drawn(10, 77, 2), 118598829);
    }

    private static void drawnOutside() {
        int[][] outside = {{0, 1, 0}, {11, 1, 0}, {-1, 1, 1}, {LOWEST, 1, 0}, {HIGHEST, 1, 2}, {1, -1, 0}, {10, -1, 2}, {1, LOWEST, 1},
            {1, 1, 3}, {1, 1, -1}, {10, 0, LOWEST}, {1, 0, HIGHEST}, {HIGHEST, LOWEST, HIGHEST}};
        for (int[] o : outside) {
            String call = "drawn(" + o[0] + ", " + o[1] + ", " + o[2] + ")";
            still(call, Check::rich, x -> x.drawn(o[0], o[1], o[2]), OUTSIDE);
            still(call + " without tables", Check::bare, x -> x.drawn(o[0], o[1], o[2]), OUTSIDE);
        }
    }

    private static void drawnState() {
        for (int w = 0; w <= 2; w++) {
            int what = w;
            still("drawn(1, 0, " + what + ") without tables", Check::bare, x -> x.drawn(1, 0, what), STATE);
            still("drawn(10, 2147483647, " + what + ") without tables", Check::bare, x -> x.drawn(10, HIGHEST, what), STATE);
        }
    }

    // ---- 22, 23

    private static void images() {
        sentence(22, "An IMAGE is kept: how many ROWS there are", WholeTest::imageTells);
        sentence(22, "STATE: no TABLES", () -> still("image() without tables", Check::bare, x -> x.image(), STATE));
        sentence(22, "one; the latest", WholeTest::imageIsTheLatest);
        sentence(23, "An IMAGE keeps the ROWS, MEMORY, KIND, SEEN", WholeTest::restoreBrings);
        sentence(23, "not what the latest RUN told", WholeTest::restoreLeaves);
        sentence(23, "It goes on from the IMAGE: empty and full ones", WholeTest::restoreOfEdges);
        sentence(23, "STATE: none was kept", WholeTest::restoreWithoutAny);
        sentence(23, "STATE: or there are other TABLES since (by tables())", WholeTest::restoreBehindOthers);
    }

    private static void imageTells() {
        due("image() without rows", of("1j;;").image(), 0);
        due("image() of one row", of("1j;;-").image(), 1);
        due("image() of 28 rows", of("1j;" + UNLIKE + ";" + KEYLESS).image(), 28);
        SpillJoin x = of("2l;ab-;cd");
        long before = x.digest();
        due("image()", x.image(), 5);
        due("digest() behind it", x.digest(), before);
    }

    private static void imageIsTheLatest() {
        SpillJoin x = of("2l;ab-;cd");
        x.image();
        x.take(0, 0);
        x.see(1, true);
        due("image() again", x.image(), 4);
        x.forget();
        x.take(0, 0);
        due("restore()", x.restore(), 4);
        due("rows", rows(x), "b-;cd");
        due("count(7)", x.count(7), 1);
        still("image() of what is kept", WholeTest::kept, y -> y.image(), 5);
    }

    private static SpillJoin kept() {
        SpillJoin x = of("2l;ab-;cd");
        x.see(1, true);
        x.image();
        return x;
    }

    private static void restoreBrings() {
        SpillJoin x = kept();
        for (int time = 0; time < 2; time++) {
            x.put(0, 7);
            x.take(1, 0);
            x.key(0, 2, 9);
            x.memory(9);
            x.be(4);
            x.see(2, false);
            due("rows ahead of restore()", rows(x), "abjh;d");
            due("restore()", x.restore(), 5);
            due("rows", rows(x), "ab-;cd");
            due("count()", counts(x), "3 2 2 1 4 0 0 1 0 1");
            due("sorts(0)", x.sorts(0), 22);
        }
        due("what is told from there on", story(x), story(kept()));
        still("restore() of what is as it was", WholeTest::kept, y -> y.restore(), 5);
    }

    private static void restoreLeaves() {
        SpillJoin x = kept();
        x.put(1, 0);
        x.run(250);
        x.run(1);
        spell(x, "12");
        String told = outs(x) + "|" + logs(x) + "|" + ledgers(x);
        due("restore()", x.restore(), 5);
        due("what the latest run told", outs(x) + "|" + logs(x) + "|" + ledgers(x), told);
        due("runs that were", x.count(6), 2);
        due("letters of the page", x.count(8), 2);
        due("how often tables were read", x.count(9), 1);
    }

    private static void restoreOfEdges() {
        SpillJoin full = of("9f;" + UNLIKE + ";" + KEYLESS);
        for (int n = 0; n < 6; n++) {
            full.see(2, true);
        }
        full.image();
        for (int n = 0; n < 14; n++) {
            full.take(0, 0);
            full.take(1, 0);
        }
        full.forget();
        due("restore() of 28 rows", full.restore(), 28);
        due("rows", rows(full), UNLIKE + ";" + KEYLESS);
        due("put(0, 0)", full.put(0, 0), FULL);
        due("see(0, true)", full.see(0, true), FULL);
        SpillJoin empty = of("1j;;");
        empty.image();
        for (int n = 0; n < 14; n++) {
            empty.put(0, n);
            empty.put(1, NONE);
        }
        empty.see(0, false);
        due("restore() of no rows", empty.restore(), 0);
        due("count()", counts(empty), "0 0 1 0 0 0 0 0 0 1");
        due("sorts(0)", empty.sorts(0), 31);
        due("put(1, 3)", empty.put(1, 3), 1);
    }

    private static void restoreWithoutAny() {
        still("restore() without tables", Check::bare, x -> x.restore(), STATE);
        still("restore() without an image", () -> {
            SpillJoin x = ran("2l;ab-;cd", 1);
            x.see(1, true);
            spell(x, "4s;oo;p");
            return x;
        }, x -> x.restore(), STATE);
    }

    private static void restoreBehindOthers() {
        SpillJoin x = kept();
        spell(x, "q");
        due("tables() that is refused", x.tables(), STATE);
        due("restore() behind it", x.restore(), 5);
        still("restore() behind the same tables again", () -> keptAhead("2l;ab-;cd"), y -> y.restore(), STATE);
        still("restore() behind other tables", () -> keptAhead("1j;;"), y -> y.restore(), STATE);
        SpillJoin z = keptAhead("1j;a;a");
        due("image() of these", z.image(), 2);
        z.put(0, 0);
        due("restore() of these", z.restore(), 2);
    }

    private static SpillJoin keptAhead(String text) {
        SpillJoin x = kept();
        spell(x, text);
        x.tables();
        x.see(0, false);
        return x;
    }

    // ---- 24

    private static void countsOfAll() {
        sentence(24, "0, 1 ROWS of the LEFT, the RIGHT SIDE", () -> {
            due("of the least", counts(of("1j;;")), "0 0 1 0 0 0 0 0 0 1");
            due("of the left", of("1j;" + KEYLESS + ";").count(0) * 100 + of("1j;" + KEYLESS + ";").count(1), 1400);
            due("of the right", of("1j;;" + KEYLESS).count(0) * 100 + of("1j;;" + KEYLESS).count(1), 14);
        });
        sentence(24, "2 the MEMORY (0: no TABLES), 3 the KIND (NONE: no TABLES)", () -> {
            still("count(2) without tables", Check::bare, x -> x.count(2), 0);
            still("count(3) without tables", Check::bare, x -> x.count(3), NONE);
            still("count(2)", Check::rich, x -> x.count(2), 1);
            still("count(3)", Check::rich, x -> x.count(3), 1);
        });
        sentence(24, "4 different KEYS of both SIDES together", () -> {
            due("none", of("1j;--;-").count(4), 0);
            due("of one side", of("1j;-;ab-a").count(4), 2);
            due("of the other side", of("1j;ab-a;-").count(4), 2);
            due("of both", of("1j;ab;bc").count(4), 3);
            due("all 16", of("1j;abcdefgh;ijklmnop").count(4), 16);
            due("all 16, some twice", of("1j;abcdefghijklmn;cdefghijklmnop").count(4), 16);
        });
        sentence(24, "5 PAIRS of PARTNERS", () -> {
            due("none", of("1j;a-;b-").count(5), 0);
            due("of unlike sides", of("1j;a;aba").count(5), 2);
            due("by whatever kind", of("1a;aab;aab").count(5), 5);
            due("the most", of("1s;" + ALIKE + ";" + ALIKE).count(5), 196);
        });
        sentence(24, "6 RUNS that were", () -> {
            SpillJoin x = of("1j;a;a");
            for (int runs = 1; runs <= 100; runs++) {
                x.run(runs % 2);
                due("count(6)", x.count(6), runs);
            }
            due("refused ones are none", x.run(251), OUTSIDE);
            x.spare();
            x.drawn(10, 1, 0);
            due("count(6)", x.count(6), 100);
        });
        sentence(24, "7 what is SEEN, 8 letters of THE PAGE", () -> {
            SpillJoin x = seen(SIX);
            spell(x, many("~", 36));
            due("count()", counts(x), "2 1 2 4 2 1 1 6 36 1");
        });
        sentence(24, "9 how often TABLES were read", () -> {
            SpillJoin x = new SpillJoin();
            for (int times = 1; times <= 80; times++) {
                spell(x, "1j;;");
                x.tables();
                due("count(9)", x.count(9), times);
            }
            due("refused ones are none", x.tables(), STATE);
            due("count(9)", x.count(9), 80);
        });
        sentence(24, "count() changes nothing", () -> {
            String[] dues = counts(rich()).split(" ");
            due("count()", counts(rich()), "5 3 1 1 4 3 1 2 7 1");
            for (int w = 0; w <= 9; w++) {
                int what = w;
                still("count(" + what + ")", Check::rich, x -> x.count(what), Integer.parseInt(dues[w]));
            }
        });
        sentence(24, "OUTSIDE", () -> {
            int[] whats = {10, -1, LOWEST, HIGHEST};
            for (int what : whats) {
                still("count(" + what + ")", Check::rich, x -> x.count(what), OUTSIDE);
                still("count(" + what + ") without tables", Check::bare, x -> x.count(what), OUTSIDE);
            }
        });
    }

    // ---- 25

    private static void digestOfAll() {
        SpillJoin x = of("1l;a-;ab");
        x.run(250);
        x.see(1, false);
        spell(x, "9~");
        // The left row with a key is the build; the other left row comes out behind the turn.
        due("digest()", x.digest(), fold(
            0, 1, -1, 0, 0, 1, 1, 0,
            2, 0, 0, 1, 0, 1, 0, 0, 1, 2,
            0, 0, 1, -1,
            0, 1, 0, 0, 0, 0,
            1,
            9, 0,
            57, 126,
            2, 2, 1, 1, 2, 1, 1, 1, 2, 1));
        due("digest() of the least tables", of("9f;;").digest(), fold(
            0, 0, 0, 0, -1, 0, 0, 0, 0, 0,
            1,
            31, 0,
            0, 0, 9, 4, 0, 0, 0, 0, 0, 1));
    }

    private static void digestWithoutTables() {
        due("digest() of a new one", new SpillJoin().digest(), fold(
            0, 0, 0, 0, -1, 0, 0, 0, 0, 0,
            31, 0,
            0, 0, 0, -1, 0, 0, 0, 0, 0, 0));
    }

    private static void digestOfThePage() {
        long[] numbers = new long[10 + 2 + 36 + 10];
        numbers[4] = -1;
        numbers[10] = 31;
        for (int n = 0; n < 36; n++) {
            numbers[12 + n] = 126 - n;
        }
        numbers[48 + 3] = -1;
        numbers[48 + 8] = 36;
        SpillJoin x = new SpillJoin();
        for (int n = 0; n < 36; n++) {
            x.letter(126 - n);
        }
        due("digest() of a full page", x.digest(), fold(numbers));
    }

    /** What all calls tell, summed without a bound, then cut to 64 bits. */
    private static void digestWraps() {
        SpillJoin x = rich(many("z", 36));
        StringBuilder numbers = new StringBuilder();
        for (int side = 0; side < 2; side++) {
            for (int row = 0; row < x.count(side); row++) {
                numbers.append(x.row(side, row, 0)).append(' ').append(x.row(side, row, 1)).append(' ');
            }
        }
        numbers.append(ledgers(x)).append(' ');
        for (int n = 0; n < x.ledger(0); n++) {
            numbers.append(x.out(n, 0)).append(' ').append(x.out(n, 1)).append(' ');
        }
        for (int n = 0; n < x.ledger(9); n++) {
            numbers.append(x.log(n, 0)).append(' ').append(x.log(n, 1)).append(' ').append(x.log(n, 2)).append(' ');
        }
        numbers.append(x.spare()).append(' ').append(x.sorts(0)).append(' ').append(x.sorts(1)).append(' ');
        numbers.append(many("122 ", 36)).append(counts(x));
        BigInteger h = BigInteger.valueOf(1373);
        for (String number : numbers.toString().split(" ")) {
            h = h.multiply(BigInteger.valueOf(31)).add(new BigInteger(number));
        }
        due("digest() of a rich one", x.digest(), h.longValue());
        due("the sum is beyond 64 bits", h.bitLength() > 64 ? 1 : 0, 1);
    }

    private static void digestIsStill() {
        due("digest() again", rich().digest(), rich().digest());
        still("digest()", Check::rich, SpillJoin::digest, rich().digest());
        still("digest() without tables", Check::bare, SpillJoin::digest, bare().digest());
    }

    private static void allCallsOfAnObject() {
        String text = "2j;abbab;abbab";
        SpillJoin x = of(text);
        int calls = text.length() + 1;
        int runs = 0;
        while (calls < 510) {
            runs++;
            due("run(250), call " + ++calls, x.run(250), 13);
        }
        due("count(6), call 511", x.count(6), runs);
        due("ledger(2), call 512", x.ledger(2), 12);
    }
}
