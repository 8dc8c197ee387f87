import java.util.function.Supplier;
import java.util.function.ToLongFunction;

/**
 * What the tests of the promises share: spelling tables, telling what an object tells, comparing with what is due.
 * They extend it, for nothing can be imported from a place without a package.
 */
abstract class Check {
    static final int NONE = -1, UNKNOWN = -101, OUTSIDE = -102, STATE = -103, FULL = -104;
    static final int LOWEST = Integer.MIN_VALUE, HIGHEST = Integer.MAX_VALUE;
    static final String KINDS = "jlasf";
    /** The most rows of a side: each with a key of its own, all with one, all without. */
    static final String UNLIKE = "abcdefghijklmn", ALIKE = "aaaaaaaaaaaaaa", KEYLESS = "--------------";

    private static int sentences = 0;
    private static int asked = 0;
    private static int wrong = 0;
    private static int toldOfIt = 0;
    private static volatile String about = "";

    static {
        // A call that does not end must fail its test, not keep it waiting.
        Thread watch = new Thread(Check::giveUp);
        watch.setDaemon(true);
        watch.start();
    }

    private static void giveUp() {
        try {
            Thread.sleep(120_000);
        } catch (InterruptedException e) {
            return;
        }
        System.out.println(about + "does not end");
        Runtime.getRuntime().halt(1);
    }

    // ---- comparing

    /** A test of its own for a sentence of the document. */
    static void sentence(int promise, String words, Runnable test) {
        sentence("promise " + promise, words, test);
    }

    /** The same for a sentence that is told elsewhere. */
    static void sentence(String where, String words, Runnable test) {
        about = where + " (" + words + "): ";
        sentences++;
        toldOfIt = 0;
        int before = asked;
        test.run();
        if (asked == before) {
            fault("asks nothing");
        }
    }

    private static void fault(String text) {
        wrong++;
        toldOfIt++;
        if (toldOfIt <= 5) {
            System.out.println(about + text);
        }
    }

    static void due(String call, long got, long want) {
        asked++;
        if (got != want) {
            fault(call + " answered " + got + ", due is " + want);
        }
    }

    static void due(String what, String got, String want) {
        asked++;
        if (!got.equals(want)) {
            fault(what + " told " + got + ", due is " + want);
        }
    }

    /** A call that is refused, or only tells: its answer is due, and a twin without it tells the same from there on. */
    static void still(String call, Supplier<SpillJoin> make, ToLongFunction<SpillJoin> ask, long want) {
        SpillJoin used = make.get();
        due(call, ask.applyAsLong(used), want);
        due("what " + call + " changes: all", story(used), story(make.get()));
        SpillJoin restored = make.get();
        ask.applyAsLong(restored);
        due("what " + call + " changes: the image", imageStory(restored), imageStory(make.get()));
    }

    static void end() {
        System.out.println(sentences + " sentences, " + asked + " answers, " + wrong + " not as due");
        if (wrong != 0 || sentences == 0) {
            System.exit(1);
        }
    }

    // ---- making objects

    static void spell(SpillJoin x, String text) {
        for (char letter : text.toCharArray()) {
            x.letter(letter);
        }
    }

    static SpillJoin page(String text) {
        SpillJoin x = new SpillJoin();
        spell(x, text);
        return x;
    }

    static SpillJoin of(String text) {
        SpillJoin x = page(text);
        x.tables();
        return x;
    }

    static SpillJoin ran(String text, int limit) {
        SpillJoin x = of(text);
        x.run(limit);
        return x;
    }

    /** Tables, an image unlike them, a run that broke off, two things seen, and these letters: whatever changes shows. */
    static SpillJoin rich(String letters) {
        SpillJoin x = of("2f;abc-;cbbd");
        x.see(1, true);
        x.image();
        x.put(0, 7);
        x.take(1, 3);
        x.memory(1);
        x.be(1);
        x.see(3, false);
        x.run(3);
        spell(x, letters);
        return x;
    }

    static SpillJoin rich() {
        return rich("4s;oo;p");
    }

    /** The same of these tables, which are as they were spelled: only the image is unlike them. */
    static SpillJoin richly(String text, int limit) {
        SpillJoin x = of(text);
        x.see(1, true);
        int memory = x.memory(7), kind = x.be(3), key = x.key(0, 0, NONE);
        x.image();
        x.memory(memory);
        x.be(kind);
        x.key(0, 0, key);
        x.see(3, false);
        x.run(limit);
        spell(x, "4s;oo;p");
        return x;
    }

    /** No tables, but a page that could be read as such. */
    static SpillJoin bare() {
        return page("3a;b;c");
    }

    static String many(String sign, int times) {
        return sign.repeat(times);
    }

    // ---- what an object tells

    /** The digest of these numbers. */
    static long fold(long... numbers) {
        long h = 1373;
        for (long number : numbers) {
            h = 31 * h + number;
        }
        return h;
    }

    /** All that it tells from here on, its image and its page too; it is used up by that. */
    static String story(SpillJoin x) {
        StringBuilder text = new StringBuilder();
        text.append(x.digest()).append(' ').append(x.fault());
        text.append(' ').append(x.restore()).append(' ').append(x.digest());
        text.append(' ').append(x.run(250)).append(' ').append(x.digest());
        text.append(' ').append(x.tables()).append(' ').append(x.digest());
        return text.append(' ').append(x.restore()).toString();
    }

    /** The same of the image, ahead of all other calls, as one of these could spoil it too. */
    private static String imageStory(SpillJoin x) {
        return x.restore() + " " + rows(x) + " " + counts(x) + " " + x.sorts(0);
    }

    private static String sign(int row) {
        return row == NONE ? "-" : "" + row;
    }

    /** What came out, as "left:right". */
    static String outs(SpillJoin x) {
        StringBuilder text = new StringBuilder();
        int many = x.ledger(0);
        for (int n = 0; n < many; n++) {
            text.append(n == 0 ? "" : " ").append(sign(x.out(n, 0))).append(':').append(sign(x.out(n, 1)));
        }
        return text.toString();
    }

    /** What was opened (o) and shut (s), as number/nature. */
    static String logs(SpillJoin x) {
        StringBuilder text = new StringBuilder();
        int many = x.ledger(9);
        for (int n = 0; n < many; n++) {
            text.append(n == 0 ? "" : " ").append(x.log(n, 1) == 1 ? 'o' : 's').append(x.log(n, 0)).append('/').append(x.log(n, 2));
        }
        return text.toString();
    }

    static String ledgers(SpillJoin x) {
        StringBuilder text = new StringBuilder();
        for (int what = 0; what < 10; what++) {
            text.append(what == 0 ? "" : " ").append(x.ledger(what));
        }
        return text.toString();
    }

    static String counts(SpillJoin x) {
        StringBuilder text = new StringBuilder();
        for (int what = 0; what < 10; what++) {
            text.append(what == 0 ? "" : " ").append(x.count(what));
        }
        return text.toString();
    }

    /** Both sides as they would be spelled. */
    static String rows(SpillJoin x) {
        StringBuilder text = new StringBuilder();
        for (int side = 0; side < 2; side++) {
            for (int row = 0; row < x.count(side); row++) {
                int key = x.row(side, row, 0);
                text.append(key == NONE ? '-' : (char) ('a' + key));
            }
            text.append(side == 0 ? ";" : "");
        }
        return text.toString();
    }
}
