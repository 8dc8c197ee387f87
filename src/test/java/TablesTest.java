/** Promises 1 to 12, sentence by sentence: the tables, and what is done to them. */
public final class TablesTest extends Check {
    public static void main(String[] args) {
        sentence(1, "No TABLES: nothing is told", TablesTest::newTellsNothing);
        sentence(1, "No TABLES: what needs them is refused", TablesTest::newRefuses);
        letters();
        pages();
        readings();
        rowsAndKinds();
        sentence(8, "A ROW comes behind all of a SIDE: how many ROWS that has", TablesTest::putComesBehind);
        sentence(8, "UNKNOWN: side", TablesTest::putUnknown);
        sentence(8, "OUTSIDE: key (NONE to 15)", TablesTest::putOutside);
        sentence(8, "STATE: no TABLES", TablesTest::putState);
        sentence(8, "FULL: there are 14", TablesTest::putFull);
        sentence(9, "A ROW is taken out: its KEY (NONE)", TablesTest::takeTellsTheKey);
        sentence(9, "those behind it have numbers 1 less", TablesTest::takeMovesTheRest);
        sentence(9, "UNKNOWN: side, row", TablesTest::takeUnknown);
        sentence(10, "Another KEY for a ROW, or none (NONE): which it had (NONE)", TablesTest::keyChanges);
        sentence(10, "UNKNOWN: side, row", TablesTest::keyUnknown);
        sentence(10, "OUTSIDE: key (NONE to 15)", TablesTest::keyOutside);
        sentence(11, "Another MEMORY: which it was", TablesTest::memoryChanges);
        sentence(11, "OUTSIDE: memory (1 to 9)", TablesTest::memoryOutside);
        sentence(11, "STATE: no TABLES", TablesTest::memoryState);
        sentence(12, "Another KIND: which it was", TablesTest::beChanges);
        sentence(12, "OUTSIDE: kind (0 to 4)", TablesTest::beOutside);
        sentence(12, "STATE: no TABLES", TablesTest::beState);
        end();
    }

    // ---- 1

    private static void newTellsNothing() {
        SpillJoin x = new SpillJoin();
        due("count()", counts(x), "0 0 0 -1 0 0 0 0 0 0");
        due("ledger()", ledgers(x), "0 0 0 0 -1 0 0 0 0 0");
        due("fault()", x.fault(), 0);
        due("out(0, 0)", x.out(0, 0), UNKNOWN);
        due("log(0, 0)", x.log(0, 0), UNKNOWN);
        due("sorts(0)", x.sorts(0), 31);
        due("sorts(1)", x.sorts(1), 0);
        due("blank()", x.blank(), 0);
        due("forget()", x.forget(), 0);
    }

    private static void newRefuses() {
        still("tables()", SpillJoin::new, x -> x.tables(), STATE);
        still("row(0, 0, 0)", SpillJoin::new, x -> x.row(0, 0, 0), UNKNOWN);
        still("as(0)", SpillJoin::new, x -> x.as(0), STATE);
        still("put(0, 0)", SpillJoin::new, x -> x.put(0, 0), STATE);
        still("take(0, 0)", SpillJoin::new, x -> x.take(0, 0), UNKNOWN);
        still("key(0, 0, 0)", SpillJoin::new, x -> x.key(0, 0, 0), UNKNOWN);
        still("memory(1)", SpillJoin::new, x -> x.memory(1), STATE);
        still("be(0)", SpillJoin::new, x -> x.be(0), STATE);
        still("run(0)", SpillJoin::new, x -> x.run(0), STATE);
        still("spare()", SpillJoin::new, x -> x.spare(), STATE);
        still("see(0, true)", SpillJoin::new, x -> x.see(0, true), STATE);
        still("drawn(1, 0, 0)", SpillJoin::new, x -> x.drawn(1, 0, 0), STATE);
        still("image()", SpillJoin::new, x -> x.image(), STATE);
        still("restore()", SpillJoin::new, x -> x.restore(), STATE);
    }

    // ---- 2

    private static final int[] NO_LETTERS = {31, 127, 0, -1, 10, 'a' + 256, 'a' + 65536, LOWEST, HIGHEST};

    private static void letters() {
        sentence(2, "A letter comes behind THE PAGE", TablesTest::letterComesBehind);
        sentence(2, "told by its code: how many THE PAGE has", TablesTest::letterIsCounted);
        sentence(2, "OUTSIDE: code (32 to 126)", TablesTest::letterOutside);
        sentence(2, "FULL: above 36", TablesTest::letterFull);
        sentence(2, "of several the first: OUTSIDE, then FULL", TablesTest::letterOutsideFirst);
        sentence(3, "THE PAGE is empty: how many letters it had", TablesTest::blankTells);
        sentence(3, "THE PAGE is empty, and nothing else", TablesTest::blankLeavesTheRest);
    }

    private static void letterComesBehind() {
        SpillJoin x = new SpillJoin();
        String text = "9f;ap;-";
        for (int n = 0; n < text.length(); n++) {
            due("letter " + n, x.letter(text.charAt(n)), n + 1);
        }
        due("tables()", x.tables(), 3);
        due("rows", rows(x), "ap;-");
    }

    private static void letterIsCounted() {
        for (int code = 32; code <= 126; code++) {
            SpillJoin x = page("~ ");
            due("letter(" + code + ")", x.letter(code), 3);
            due("count(8)", x.count(8), 3);
            due("digest() of the page", x.digest(), fold(0, 0, 0, 0, -1, 0, 0, 0, 0, 0,
                31, 0, 126, 32, code, 0, 0, 0, -1, 0, 0, 0, 0, 3, 0));
        }
    }

    private static void letterOutside() {
        for (int code : NO_LETTERS) {
            still("letter(" + code + ")", SpillJoin::new, x -> x.letter(code), OUTSIDE);
            still("letter(" + code + ") behind others", Check::rich, x -> x.letter(code), OUTSIDE);
        }
    }

    private static void letterFull() {
        SpillJoin x = new SpillJoin();
        for (int n = 1; n <= 36; n++) {
            due("letter(97)", x.letter('a'), n);
        }
        for (int code = 32; code <= 126; code++) {
            due("letter(" + code + "), the 37th", x.letter(code), FULL);
        }
        due("blank()", x.blank(), 36);
        still("letter(97), the 37th", () -> rich(many("p", 36)), y -> y.letter('a'), FULL);
        still("letter(126), the 37th", () -> page(many(" ", 36)), y -> y.letter(126), FULL);
    }

    private static void letterOutsideFirst() {
        for (int code : NO_LETTERS) {
            still("letter(" + code + "), the 37th", () -> page(many("p", 36)), x -> x.letter(code), OUTSIDE);
        }
    }

    // ---- 3

    private static void blankTells() {
        still("blank() of an empty page", () -> rich(""), x -> x.blank(), 0);
        for (int letters = 0; letters <= 36; letters++) {
            SpillJoin x = page(many("a", letters));
            due("blank()", x.blank(), letters);
            due("blank() again", x.blank(), 0);
            due("count(8)", x.count(8), 0);
            due("letter behind it", x.letter('9'), 1);
            due("fault() behind it", x.fault(), 1);
        }
    }

    private static void blankLeavesTheRest() {
        SpillJoin x = rich(many("a", 36));
        x.blank();
        due("what is told behind blank()", story(x), story(rich("")));
    }

    // ---- 4

    private static final String KEYS = "abcdefghijklmnop-";

    private static void pages() {
        sentence(4, "the first letter that no TABLES have there: a digit, the MEMORY (1 to 9)",
            () -> onlyThese("", "123456789"));
        sentence(4, "the first letter that no TABLES have there: a letter, the KIND", () -> {
            onlyThese("1", KINDS);
            onlyThese("9", KINDS);
        });
        sentence(4, "the first letter that no TABLES have there: \";\" behind the KIND", TablesTest::markBehindTheKind);
        sentence(4, "the first letter that no TABLES have there: the ROWS of the LEFT SIDE, none to 14", TablesTest::leftRows);
        sentence(4, "the first letter that no TABLES have there: those of the RIGHT SIDE, none to 14", TablesTest::rightRows);
        sentence(4, "behind those ahead of it", TablesTest::firstOfSeveral);
        sentence(4, "how many letters it has, if there is none", TablesTest::noFault);
        sentence(4, "a full page", TablesTest::faultOfAFullPage);
        sentence(4, "fault() changes nothing", TablesTest::faultIsStill);
    }

    /** Behind these letters just those are right, and what comes behind a wrong one is not looked at. */
    private static void onlyThese(String ahead, String right) {
        for (char code = 32; code <= 126; code++) {
            boolean fits = right.indexOf(code) >= 0;
            SpillJoin x = page(ahead + code);
            due("fault() of " + ahead + code, x.fault(), fits ? ahead.length() + 1 : ahead.length());
            x.letter(' ');
            due("fault() of " + ahead + code + " and a space", x.fault(), fits ? ahead.length() + 1 : ahead.length());
        }
    }

    private static void markBehindTheKind() {
        for (char kind : KINDS.toCharArray()) {
            onlyThese("1" + kind, ";");
        }
    }

    private static void leftRows() {
        for (int rows = 0; rows < 14; rows++) {
            onlyThese("2l;" + UNLIKE.substring(0, rows), KEYS + ";");
        }
        onlyThese("2l;" + UNLIKE, ";");
        onlyThese("2l;" + KEYLESS, ";");
    }

    private static void rightRows() {
        for (int rows = 0; rows < 14; rows++) {
            onlyThese("2l;;" + UNLIKE.substring(0, rows), KEYS);
            onlyThese("2l;" + UNLIKE + ";" + KEYLESS.substring(0, rows), KEYS);
        }
        onlyThese("2l;;" + UNLIKE, "");
        onlyThese("2l;" + KEYLESS + ";" + ALIKE, "");
    }

    private static void firstOfSeveral() {
        due("fault() of xx", page("xx").fault(), 0);
        due("fault() of 0k", page("0k").fault(), 0);
        due("fault() of 2k,", page("2k,").fault(), 1);
        due("fault() of 2l,q", page("2l,q").fault(), 2);
        due("fault() of 2l;q;q", page("2l;q;q").fault(), 3);
        due("fault() of 2l;a;q;", page("2l;a;q;").fault(), 5);
        due("fault() of 2l;a;;q", page("2l;a;;q").fault(), 5);
    }

    private static void noFault() {
        String longest = "9f;" + UNLIKE + ";" + KEYLESS;
        for (int letters = 0; letters <= longest.length(); letters++) {
            due("fault() of " + letters + " letters", page(longest.substring(0, letters)).fault(), letters);
        }
        due("fault() of the least", page("1j;;").fault(), 4);
    }

    private static void faultOfAFullPage() {
        due("fault() of 36 letters", page("9f;" + UNLIKE + ";" + KEYLESS + "----").fault(), 32);
        due("fault() of 36 rows", page("9f;" + many("p", 33)).fault(), 17);
        due("fault() of 36 marks", page("9f" + many(";", 34)).fault(), 4);
        due("fault() of 36 digits", page(many("9", 36)).fault(), 1);
        due("fault() of 36 tildes", page(many("~", 36)).fault(), 0);
    }

    private static void faultIsStill() {
        still("fault() of an empty page", SpillJoin::new, x -> x.fault(), 0);
        still("fault() of tables", Check::rich, x -> x.fault(), 7);
        still("fault() of none", () -> rich("4s;oo;q"), x -> x.fault(), 6);
    }

    // ---- 5

    private static void readings() {
        sentence(5, "THE PAGE is read as TABLES: how many ROWS", TablesTest::tablesAreRead);
        sentence(5, "THE PAGE is read as TABLES: the KIND, the MEMORY (1 to 9)", TablesTest::headIsRead);
        sentence(5, "each of none to 14 ROWS", TablesTest::leastAndMostRows);
        sentence(5, "others are gone, with all that was", TablesTest::othersAreGone);
        sentence(5, "THE PAGE is empty then", TablesTest::pageIsEmptyThen);
        sentence(5, "STATE: it is none, for it ends too soon", TablesTest::tablesTooShort);
        sentence(5, "STATE: it is none, for it has a fault", TablesTest::tablesWithAFault);
    }

    private static void tablesAreRead() {
        SpillJoin x = page("2l;abp-;-c");
        due("tables()", x.tables(), 6);
        due("rows", rows(x), "abp-;-c");
        due("count()", counts(x), "4 2 2 1 4 0 0 0 0 1");
    }

    private static void headIsRead() {
        for (int memory = 1; memory <= 9; memory++) {
            due("memory of " + memory, of(memory + "j;;").count(2), memory);
        }
        for (int kind = 0; kind < 5; kind++) {
            due("kind of " + KINDS.charAt(kind), of("9" + KINDS.charAt(kind) + ";;").count(3), kind);
        }
    }

    private static void leastAndMostRows() {
        due("tables() without rows", page("1j;;").tables(), 0);
        due("tables() of one left row", page("1j;-;").tables(), 1);
        due("tables() of one right row", page("1j;;-").tables(), 1);
        due("tables() of 14 left rows", page("1j;" + UNLIKE + ";").tables(), 14);
        due("tables() of 14 right rows", page("1j;;" + KEYLESS).tables(), 14);
        SpillJoin x = page("1j;" + UNLIKE + ";" + ALIKE);
        due("tables() of 28 rows", x.tables(), 28);
        due("rows", rows(x), UNLIKE + ";" + ALIKE);
        spell(x, "1j;;");
        due("tables() without rows behind them", x.tables(), 0);
        due("rows", rows(x), ";");
        due("row(0, 0, 0)", x.row(0, 0, 0), UNKNOWN);
    }

    private static void othersAreGone() {
        SpillJoin x = rich();
        due("restore() ahead of it", rich().restore(), 8);
        due("tables()", x.tables(), 3);
        due("rows", rows(x), "oo;p");
        due("count()", counts(x), "2 1 4 3 2 0 0 0 0 2");
        due("ledger()", ledgers(x), "0 0 0 0 -1 0 0 0 0 0");
        due("out(0, 0)", x.out(0, 0), UNKNOWN);
        due("log(0, 0)", x.log(0, 0), UNKNOWN);
        due("sorts(0)", x.sorts(0), 31);
        due("restore()", x.restore(), STATE);
        // Only how often tables were read is told of the others.
        SpillJoin fresh = of("1j;;");
        spell(fresh, "4s;oo;p");
        fresh.tables();
        due("what is told from there on", story(x), story(fresh));
    }

    private static void pageIsEmptyThen() {
        SpillJoin x = of("9f;" + UNLIKE + ";" + KEYLESS);
        due("count(8)", x.count(8), 0);
        due("fault()", x.fault(), 0);
        still("tables() of the empty page", () -> rich(""), y -> y.tables(), STATE);
        due("letter behind it", x.letter('1'), 1);
        due("blank()", x.blank(), 1);
    }

    private static void tablesTooShort() {
        String longest = "9f;" + UNLIKE + ";";
        for (int letters = 0; letters < longest.length(); letters++) {
            String text = longest.substring(0, letters);
            still("tables() of " + text, () -> rich(text), x -> x.tables(), STATE);
            still("tables() of " + text + " without others", () -> page(text), x -> x.tables(), STATE);
        }
        due("tables() of " + longest, page(longest).tables(), 14);
        due("tables() of 2j;", page("2j;").tables(), STATE);
        due("tables() of 2j;;", page("2j;;").tables(), 0);
    }

    private static void tablesWithAFault() {
        String[] none = {"0j;;", ":j;;", "2k;;", "2J;;", "2j,;", "2j;,", "2j;;;", "2j;q;", "2j;;q", "2j;`;", "2j;A;", "2j; ;",
            "2j;a" + ALIKE + ";", "2j;;a" + ALIKE, "2j;" + ALIKE + ";" + ALIKE + ";", many("9", 36),
            "9f;" + UNLIKE + ";" + KEYLESS + "----"};
        for (String text : none) {
            still("tables() of " + text, () -> rich(text), x -> x.tables(), STATE);
            still("tables() of " + text + " without others", () -> page(text), x -> x.tables(), STATE);
        }
    }

    // ---- 6, 7

    private static void rowsAndKinds() {
        sentence(6, "what = 0 its KEY (NONE)", TablesTest::rowTellsTheKey);
        sentence(6, "1 how many PARTNERS it has", TablesTest::rowTellsPartners);
        sentence(6, "none is no KEY", TablesTest::rowWithoutAKey);
        sentence(6, "UNKNOWN: side", TablesTest::rowUnknownSide);
        sentence(6, "UNKNOWN: row", TablesTest::rowUnknown);
        sentence(6, "OUTSIDE", TablesTest::rowOutside);
        sentence(6, "of several the first: UNKNOWN, then OUTSIDE", TablesTest::rowUnknownFirst);
        sentence(7, "its KIND; NONE: it is none such. All are JOINS; a FULL one is OUTER, too", TablesTest::asTells);
        sentence(7, "OUTSIDE: kind (0 to 4)", TablesTest::asOutside);
        sentence(7, "STATE: no TABLES", TablesTest::asState);
    }

    private static final int[] NO_SIDES = {-1, 2, LOWEST, HIGHEST};

    private static void rowTellsTheKey() {
        SpillJoin x = of("2j;" + "ponmlkjihgfedc;b-a");
        for (int row = 0; row < 14; row++) {
            due("row(0, " + row + ", 0)", x.row(0, row, 0), 15 - row);
        }
        still("row(1, 0, 0)", () -> of("2j;;b-a"), y -> y.row(1, 0, 0), 1);
        still("row(1, 1, 0)", () -> of("2j;;b-a"), y -> y.row(1, 1, 0), NONE);
        still("row(1, 2, 0)", () -> of("2j;;b-a"), y -> y.row(1, 2, 0), 0);
    }

    private static void rowTellsPartners() {
        int[][] dues = {{0, 0, 2}, {0, 1, 2}, {0, 2, 0}, {0, 3, 1}, {1, 0, 1}, {1, 1, 2}, {1, 2, 2}, {1, 3, 0}};
        for (int[] d : dues) {
            still("row(" + d[0] + ", " + d[1] + ", 1)", () -> of("2l;aabp;paac"), x -> x.row(d[0], d[1], 1), d[2]);
        }
        for (int partners = 0; partners <= 14; partners++) {
            SpillJoin x = of("1j;p;" + many("p", partners));
            due("row(0, 0, 1) of " + partners, x.row(0, 0, 1), partners);
        }
        due("row(1, 13, 1)", of("1j;" + ALIKE + ";" + ALIKE).row(1, 13, 1), 14);
    }

    private static void rowWithoutAKey() {
        due("row(0, 0, 1) of none beside none", of("1j;-;" + KEYLESS).row(0, 0, 1), 0);
        due("row(1, 13, 1) of none beside none", of("1j;" + KEYLESS + ";" + KEYLESS).row(1, 13, 1), 0);
        due("row(0, 0, 1) of a beside none", of("1j;a;" + KEYLESS).row(0, 0, 1), 0);
    }

    private static void rowUnknownSide() {
        for (int side : NO_SIDES) {
            still("row(" + side + ", 0, 0)", Check::rich, x -> x.row(side, 0, 0), UNKNOWN);
            still("row(" + side + ", 0, 1)", Check::bare, x -> x.row(side, 0, 1), UNKNOWN);
        }
    }

    private static void rowUnknown() {
        int[][] unknown = {{0, 5}, {0, -1}, {1, 3}, {1, -1}, {0, 14}, {1, 14}, {0, LOWEST}, {1, HIGHEST}};
        for (int[] u : unknown) {
            still("row(" + u[0] + ", " + u[1] + ", 0)", Check::rich, x -> x.row(u[0], u[1], 0), UNKNOWN);
            still("row(" + u[0] + ", " + u[1] + ", 1)", Check::rich, x -> x.row(u[0], u[1], 1), UNKNOWN);
        }
        for (int side = 0; side < 2; side++) {
            int one = side;
            due("row(" + side + ", 13, 0) of 14", of("1j;" + ALIKE + ";" + ALIKE).row(side, 13, 0), 0);
            still("row(" + side + ", 14, 0) of 14", () -> of("1j;" + ALIKE + ";" + ALIKE), x -> x.row(one, 14, 0), UNKNOWN);
            still("row(" + side + ", 0, 0) of none", () -> of("1j;;"), x -> x.row(one, 0, 0), UNKNOWN);
            still("row(" + side + ", 0, 0) without tables", Check::bare, x -> x.row(one, 0, 0), UNKNOWN);
        }
    }

    private static void rowOutside() {
        int[] whats = {-1, 2, LOWEST, HIGHEST};
        for (int what : whats) {
            still("row(0, 4, " + what + ")", Check::rich, x -> x.row(0, 4, what), OUTSIDE);
            still("row(1, 0, " + what + ")", Check::rich, x -> x.row(1, 0, what), OUTSIDE);
        }
    }

    private static void rowUnknownFirst() {
        still("row(2, 0, 2)", Check::rich, x -> x.row(2, 0, 2), UNKNOWN);
        still("row(0, 5, 2)", Check::rich, x -> x.row(0, 5, 2), UNKNOWN);
        still("row(-1, -1, -1)", Check::rich, x -> x.row(-1, -1, -1), UNKNOWN);
        still("row(0, 0, 2) without tables", Check::bare, x -> x.row(0, 0, 2), UNKNOWN);
    }

    private static final int[] NO_KINDS = {-1, 5, LOWEST, HIGHEST};

    private static void asTells() {
        String[] dues = {"0 -1 -1 -1 -1", "1 1 -1 -1 -1", "2 -1 2 -1 -1", "3 -1 -1 3 -1", "4 4 -1 -1 4"};
        for (int kind = 0; kind < 5; kind++) {
            String text = "2" + KINDS.charAt(kind) + ";a;b";
            String[] due = dues[kind].split(" ");
            for (int as = 0; as < 5; as++) {
                int asked = as;
                still("as(" + as + ") of kind " + kind, () -> of(text), x -> x.as(asked), Integer.parseInt(due[as]));
            }
        }
    }

    private static void asOutside() {
        for (int kind : NO_KINDS) {
            still("as(" + kind + ")", Check::rich, x -> x.as(kind), OUTSIDE);
            still("as(" + kind + ") without tables", Check::bare, x -> x.as(kind), OUTSIDE);
        }
    }

    private static void asState() {
        for (int kind = 0; kind < 5; kind++) {
            int asked = kind;
            still("as(" + kind + ") without tables", Check::bare, x -> x.as(asked), STATE);
        }
    }

    // ---- 8

    private static final int[] NO_KEYS = {-2, 16, LOWEST, HIGHEST};

    private static void putComesBehind() {
        SpillJoin x = of("2j;b;");
        for (int key = NONE; key <= 11; key++) {
            due("put(0, " + key + ")", x.put(0, key), key + 3);
        }
        for (int key = 15; key >= 4; key--) {
            due("put(1, " + key + ")", x.put(1, key), 16 - key);
        }
        due("put(1, -1)", x.put(1, NONE), 13);
        due("put(1, 0)", x.put(1, 0), 14);
        due("rows", rows(x), "b-abcdefghijkl;ponmlkjihgfe-a");
    }

    private static void putUnknown() {
        for (int side : NO_SIDES) {
            still("put(" + side + ", 0)", Check::rich, x -> x.put(side, 0), UNKNOWN);
            still("put(" + side + ", 16), a key outside", Check::rich, x -> x.put(side, 16), UNKNOWN);
            still("put(" + side + ", 0) without tables", Check::bare, x -> x.put(side, 0), UNKNOWN);
            still("put(" + side + ", 0) beside full sides", TablesTest::full, x -> x.put(side, 0), UNKNOWN);
        }
    }

    private static void putOutside() {
        for (int key : NO_KEYS) {
            still("put(0, " + key + ")", Check::rich, x -> x.put(0, key), OUTSIDE);
            still("put(1, " + key + ")", Check::rich, x -> x.put(1, key), OUTSIDE);
            still("put(0, " + key + ") without tables", Check::bare, x -> x.put(0, key), OUTSIDE);
            still("put(1, " + key + ") to a full side", TablesTest::full, x -> x.put(1, key), OUTSIDE);
        }
    }

    private static void putState() {
        still("put(0, -1) without tables", Check::bare, x -> x.put(0, NONE), STATE);
        still("put(1, 15) without tables", Check::bare, x -> x.put(1, 15), STATE);
    }

    private static SpillJoin full() {
        return richly("2j;" + UNLIKE + ";" + ALIKE, 5);
    }

    private static void putFull() {
        due("put(0, 0), the 14th", of("2j;aaaaaaaaaaaaa;").put(0, 0), 14);
        due("put(1, 0), the 14th", of("2j;;aaaaaaaaaaaaa").put(1, 0), 14);
        still("put(0, 0), the 15th", () -> richly("2j;" + UNLIKE + ";a", 0), x -> x.put(0, 0), FULL);
        still("put(1, -1), the 15th", () -> richly("2j;a;" + UNLIKE, 0), x -> x.put(1, NONE), FULL);
        due("put(1, 15) beside a full side", of("2j;" + UNLIKE + ";").put(1, 15), 1);
        due("put(0, 15) beside a full side", of("2j;;" + UNLIKE).put(0, 15), 1);
        SpillJoin x = full();
        x.take(0, 0);
        due("put(0, 15) where one was taken", x.put(0, 15), 14);
        due("rows", rows(x), "bcdefghijklmnp;" + ALIKE);
    }

    // ---- 9

    private static void takeTellsTheKey() {
        SpillJoin x = of("2j;-pa;o");
        due("take(0, 1)", x.take(0, 1), 15);
        due("take(0, 0)", x.take(0, 0), NONE);
        due("take(0, 0)", x.take(0, 0), 0);
        due("take(1, 0)", x.take(1, 0), 14);
        due("rows", rows(x), ";");
        due("count(2)", x.count(2), 2);
        due("run(250)", x.run(250), 0);
    }

    private static void takeMovesTheRest() {
        for (int row = 0; row < 14; row++) {
            SpillJoin x = full();
            due("take(0, " + row + ")", x.take(0, row), row);
            due("rows", rows(x), new StringBuilder(UNLIKE).deleteCharAt(row) + ";" + ALIKE);
            due("count(0)", x.count(0), 13);
        }
        SpillJoin x = of("2j;ab-d;po");
        x.take(1, 0);
        due("rows behind take(1, 0)", rows(x), "ab-d;o");
        SpillJoin y = full();
        for (int left = 13; left >= 0; left--) {
            due("take(0, 0)", y.take(0, 0), 13 - left);
            due("count(0)", y.count(0), left);
        }
    }

    private static void takeUnknown() {
        int[][] unknown = {{0, 5}, {0, -1}, {1, 3}, {1, -1}, {2, 0}, {-1, 0}, {0, 14}, {LOWEST, LOWEST}, {0, LOWEST}, {1, HIGHEST},
            {HIGHEST, 0}};
        for (int[] u : unknown) {
            still("take(" + u[0] + ", " + u[1] + ")", Check::rich, x -> x.take(u[0], u[1]), UNKNOWN);
        }
        still("take(0, 14) of 14", TablesTest::full, x -> x.take(0, 14), UNKNOWN);
        still("take(1, 14) of 14", TablesTest::full, x -> x.take(1, 14), UNKNOWN);
        still("take(0, 0) of none", () -> of("1j;;a"), x -> x.take(0, 0), UNKNOWN);
        still("take(1, 0) of none", () -> of("1j;a;"), x -> x.take(1, 0), UNKNOWN);
        still("take(0, 0) without tables", Check::bare, x -> x.take(0, 0), UNKNOWN);
    }

    // ---- 10

    private static void keyChanges() {
        SpillJoin x = of("2j;ab;-c");
        due("key(0, 1, 15)", x.key(0, 1, 15), 1);
        due("key(0, 1, 14)", x.key(0, 1, 14), 15);
        due("key(1, 0, 0)", x.key(1, 0, 0), NONE);
        due("key(1, 1, -1)", x.key(1, 1, NONE), 2);
        due("key(1, 1, -1) again", x.key(1, 1, NONE), NONE);
        due("rows", rows(x), "ao;a-");
        due("row(0, 0, 1)", x.row(0, 0, 1), 1);
        SpillJoin full = full();
        due("key(0, 0, 15) of 14", full.key(0, 0, 15), 0);
        due("key(0, 13, -1) of 14", full.key(0, 13, NONE), 13);
        due("key(1, 13, 1) of 14", full.key(1, 13, 1), 0);
        due("rows", rows(full), "pbcdefghijklm-;aaaaaaaaaaaaab");
    }

    private static void keyUnknown() {
        int[][] unknown = {{0, 5, 0}, {0, -1, 0}, {1, 3, 0}, {2, 0, 0}, {-1, 0, 0}, {0, 14, 0}, {LOWEST, HIGHEST, 0}, {0, LOWEST, 0},
            {2, 0, 16}, {0, 5, 16}, {1, -1, -2}, {HIGHEST, HIGHEST, HIGHEST}};
        for (int[] u : unknown) {
            still("key(" + u[0] + ", " + u[1] + ", " + u[2] + ")", Check::rich, x -> x.key(u[0], u[1], u[2]), UNKNOWN);
        }
        still("key(0, 14, 0) of 14", TablesTest::full, x -> x.key(0, 14, 0), UNKNOWN);
        still("key(0, 0, 0) of none", () -> of("1j;;a"), x -> x.key(0, 0, 0), UNKNOWN);
        still("key(0, 0, 0) without tables", Check::bare, x -> x.key(0, 0, 0), UNKNOWN);
        still("key(0, 0, 16) without tables", Check::bare, x -> x.key(0, 0, 16), UNKNOWN);
    }

    private static void keyOutside() {
        for (int key : NO_KEYS) {
            still("key(0, 4, " + key + ")", Check::rich, x -> x.key(0, 4, key), OUTSIDE);
            still("key(1, 0, " + key + ")", Check::rich, x -> x.key(1, 0, key), OUTSIDE);
        }
    }

    // ---- 11

    private static final int[] NO_MEMORIES = {0, 10, -1, LOWEST, HIGHEST};

    private static void memoryChanges() {
        SpillJoin x = of("2l;ab;c");
        int was = 2;
        for (int memory = 1; memory <= 9; memory++) {
            due("memory(" + memory + ")", x.memory(memory), was);
            due("count(2)", x.count(2), memory);
            was = memory;
        }
        still("memory(1), as it was", Check::rich, y -> y.memory(1), 1);
    }

    private static void memoryOutside() {
        for (int memory : NO_MEMORIES) {
            still("memory(" + memory + ")", Check::rich, x -> x.memory(memory), OUTSIDE);
            still("memory(" + memory + ") without tables", Check::bare, x -> x.memory(memory), OUTSIDE);
        }
    }

    private static void memoryState() {
        still("memory(1) without tables", Check::bare, x -> x.memory(1), STATE);
        still("memory(9) without tables", Check::bare, x -> x.memory(9), STATE);
    }

    // ---- 12

    private static void beChanges() {
        SpillJoin x = of("2f;ab;c");
        int was = 4;
        for (int kind = 0; kind <= 4; kind++) {
            due("be(" + kind + ")", x.be(kind), was);
            due("count(3)", x.count(3), kind);
            due("as(" + kind + ")", x.as(kind), kind);
            was = kind;
        }
        still("be(1), as it was", Check::rich, y -> y.be(1), 1);
    }

    private static void beOutside() {
        for (int kind : NO_KINDS) {
            still("be(" + kind + ")", Check::rich, x -> x.be(kind), OUTSIDE);
            still("be(" + kind + ") without tables", Check::bare, x -> x.be(kind), OUTSIDE);
        }
    }

    private static void beState() {
        still("be(0) without tables", Check::bare, x -> x.be(0), STATE);
        still("be(4) without tables", Check::bare, x -> x.be(4), STATE);
    }
}
