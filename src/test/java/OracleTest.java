import java.util.ArrayDeque;
import java.util.ArrayList;
import java.util.Deque;
import java.util.HashSet;
import java.util.List;
import java.util.Random;
import java.util.Set;
import java.util.regex.Pattern;

/**
 * Random calls on SpillJoin and on a model written from the document apart from it,
 * with lists and an exception for what breaks off; all answers and all that is told must agree.
 */
public final class OracleTest {
    private static final Pattern AHEAD = Pattern.compile("([1-9]([jlasf](;[a-p-]{0,14}(;[a-p-]{0,14})?)?)?)?");
    private static final Pattern WHOLE = Pattern.compile("[1-9][jlasf];[a-p-]{0,14};[a-p-]{0,14}");

    private static final class BreakOff extends RuntimeException {
        private static final long serialVersionUID = 1;
        BreakOff() { super(null, null, false, false); }
    }

    /** What a run tells. */
    private static final class Told {
        final List<int[]> out = new ArrayList<>();
        final List<int[]> log = new ArrayList<>();
        int written, read, most, deepest = -1, held, blocks, split, leftBuilds;
        boolean broke;

        int ledger(int what) {
            return new int[] {out.size(), written, read, most, deepest, held, blocks, split, leftBuilds, log.size()}[what];
        }
    }

    /** One run through two lists of keys (-1: none). */
    private static final class Machine {
        final List<List<Integer>> sides;
        final int memory, kind, limit;
        final Told told = new Told();
        final Set<Integer> once = new HashSet<>();
        int numbers = 0;

        Machine(List<Integer> left, List<Integer> right, int memory, int kind, int limit) {
            this.sides = List.of(left, right);
            this.memory = memory;
            this.kind = kind;
            this.limit = limit;
        }

        Told go() {
            try {
                List<List<Integer>> part = new ArrayList<>();
                for (List<Integer> side : sides) {
                    List<Integer> keyed = new ArrayList<>();
                    for (int r = 0; r < side.size(); r++) if (side.get(r) >= 0) keyed.add(r);
                    part.add(keyed);
                }
                if (!part.get(0).isEmpty() || !part.get(1).isEmpty()) turn(part, 0);
                for (int s = 0; s < 2; s++) {
                    for (int r = 0; r < sides.get(s).size(); r++) if (sides.get(s).get(r) < 0) alone(s, r);
                }
            } catch (BreakOff b) {
                told.broke = true;
            }
            return told;
        }

        void comesOut(int left, int right) {
            if (told.out.size() == limit) throw new BreakOff();
            told.out.add(new int[] {left, right});
        }

        boolean partnerless(int side, int row) {
            int key = sides.get(side).get(row);
            return key < 0 || !sides.get(1 - side).contains(key);
        }

        void alone(int side, int row) {
            if (!partnerless(side, row)) return;
            if (side == 0 && (kind == 1 || kind == 2 || kind == 4)) comesOut(row, -1);
            if (side == 1 && kind == 4) comesOut(-1, row);
        }

        void meet(int build, int buildRow, int probeRow) {
            if (!sides.get(build).get(buildRow).equals(sides.get(1 - build).get(probeRow))) return;
            int left = build == 0 ? buildRow : probeRow;
            int right = build == 0 ? probeRow : buildRow;
            if (kind == 0 || kind == 1 || kind == 4) comesOut(left, right);
            if (kind == 3 && !once.contains(left)) {
                comesOut(left, -1);
                once.add(left);
            }
        }

        int open(int what) {
            told.log.add(new int[] {numbers, 1, what});
            return numbers++;
        }

        void shut(int number, int what) {
            told.log.add(new int[] {number, 0, what});
        }

        void turn(List<List<Integer>> part, int level) {
            int build = part.get(0).size() < part.get(1).size() ? 0 : 1;
            if (build == 0) told.leftBuilds++;
            told.deepest = Math.max(told.deepest, level);
            List<Integer> rows = part.get(build);
            Set<Integer> keys = new HashSet<>();
            for (int r : rows) keys.add(sides.get(build).get(r));
            int what = rows.size() <= memory ? 0 : level == 4 || keys.size() == 1 ? 1 : 2;
            int number = open(what);
            try {
                if (what == 0) {
                    told.held++;
                    held(build, rows, part.get(1 - build));
                } else if (what == 1) {
                    told.blocks++;
                    blocks(build, rows, part.get(1 - build));
                } else {
                    told.split++;
                    split(build, part, level);
                }
            } finally {
                shut(number, what);
            }
        }

        void held(int build, List<Integer> rows, List<Integer> probes) {
            told.most = Math.max(told.most, rows.size());
            for (int p : probes) {
                for (int b : rows) meet(build, b, p);
                alone(1 - build, p);
            }
            for (int b : rows) alone(build, b);
        }

        void blocks(int build, List<Integer> rows, List<Integer> probes) {
            for (int from = 0; from < rows.size(); from += memory) {
                List<Integer> block = rows.subList(from, Math.min(rows.size(), from + memory));
                told.most = Math.max(told.most, block.size());
                told.read += probes.size();
                for (int p : probes) for (int b : block) meet(build, b, p);
            }
            for (int p : probes) alone(1 - build, p);
            for (int b : rows) alone(build, b);
        }

        List<List<Integer>> half(List<List<Integer>> part, int level, int bit) {
            List<List<Integer>> half = List.of(new ArrayList<>(), new ArrayList<>());
            for (int s = 0; s < 2; s++) {
                for (int r : part.get(s)) if ((sides.get(s).get(r) >> level) % 2 == bit) half.get(s).add(r);
            }
            return half;
        }

        void split(int build, List<List<Integer>> part, int level) {
            List<List<List<Integer>>> halves = List.of(half(part, level, 0), half(part, level, 1));
            int resident = -1;
            for (int h = 0; h < 2; h++) {
                List<List<Integer>> half = halves.get(h);
                boolean leftOut = half.get(0).isEmpty() && half.get(1).isEmpty();
                if (leftOut || half.get(build).size() > memory) continue;
                if (resident < 0 || half.get(build).size() > halves.get(resident).get(build).size()) resident = h;
            }
            Deque<Integer> files = new ArrayDeque<>();
            try {
                for (int h = 0; h < 2; h++) {
                    int rows = halves.get(h).get(0).size() + halves.get(h).get(1).size();
                    if (h == resident || rows == 0) continue;
                    files.push(open(3));
                    files.push(open(3));
                    told.written += rows;
                }
                if (resident >= 0) held(build, halves.get(resident).get(build), halves.get(resident).get(1 - build));
                for (int h = 0; h < 2; h++) {
                    int rows = halves.get(h).get(0).size() + halves.get(h).get(1).size();
                    if (h == resident || rows == 0) continue;
                    told.read += rows;
                    turn(halves.get(h), level + 1);
                }
            } finally {
                while (!files.isEmpty()) shut(files.pop(), 3);
            }
        }
    }

    /** The whole object, by the document. */
    private static final class Model {
        static final int NONE = -1, UNKNOWN = -101, OUTSIDE = -102, STATE = -103, FULL = -104;
        static final boolean[][] SHOWS = {
            {true, false, false, false}, {true, true, false, false}, {false, true, false, false},
            {false, false, false, true}, {true, true, true, false}};

        String page = "";
        List<Integer> left = new ArrayList<>(), right = new ArrayList<>();
        int memory = 0, kind = -1, runs = 0, reads = 0;
        List<int[]> seen = new ArrayList<>();
        Told told = new Told();
        Object[] image = null;

        List<Integer> side(int s) { return s == 0 ? left : right; }
        boolean noRow(int s, int r) { return s < 0 || s > 1 || r < 0 || r >= side(s).size(); }

        int letter(int code) {
            if (code < 32 || code > 126) return OUTSIDE;
            if (page.length() >= 36) return FULL;
            page += (char) code;
            return page.length();
        }

        int blank() { int n = page.length(); page = ""; return n; }

        int fault() {
            for (int i = 0; i < page.length(); i++) if (!AHEAD.matcher(page.substring(0, i + 1)).matches()) return i;
            return page.length();
        }

        int tables() {
            if (!WHOLE.matcher(page).matches()) return STATE;
            String[] parts = page.split(";", -1);
            memory = parts[0].charAt(0) - '0';
            kind = "jlasf".indexOf(parts[0].charAt(1));
            left = keys(parts[1]);
            right = keys(parts[2]);
            seen = new ArrayList<>();
            told = new Told();
            image = null;
            runs = 0;
            reads++;
            page = "";
            return left.size() + right.size();
        }

        static List<Integer> keys(String signs) {
            List<Integer> keys = new ArrayList<>();
            for (char c : signs.toCharArray()) keys.add(c == '-' ? -1 : c - 'a');
            return keys;
        }

        int row(int s, int r, int what) {
            if (noRow(s, r)) return UNKNOWN;
            if (what != 0 && what != 1) return OUTSIDE;
            int key = side(s).get(r);
            if (what == 0) return key;
            return key < 0 ? 0 : (int) side(1 - s).stream().filter(k -> k == key).count();
        }

        int as(int k) {
            if (k < 0 || k > 4) return OUTSIDE;
            if (memory == 0) return STATE;
            return k == 0 || k == kind || (k == 1 && kind == 4) ? kind : NONE;
        }

        int put(int s, int k) {
            if (s < 0 || s > 1) return UNKNOWN;
            if (k < -1 || k > 15) return OUTSIDE;
            if (memory == 0) return STATE;
            if (side(s).size() == 14) return FULL;
            side(s).add(k);
            return side(s).size();
        }

        int take(int s, int r) { return noRow(s, r) ? UNKNOWN : side(s).remove(r); }

        int key(int s, int r, int k) {
            if (noRow(s, r)) return UNKNOWN;
            return k < -1 || k > 15 ? OUTSIDE : side(s).set(r, k);
        }

        int memory(int m) {
            if (m < 1 || m > 9) return OUTSIDE;
            if (memory == 0) return STATE;
            int was = memory;
            memory = m;
            return was;
        }

        int be(int k) {
            if (k < 0 || k > 4) return OUTSIDE;
            if (memory == 0) return STATE;
            int was = kind;
            kind = k;
            return was;
        }

        int run(int limit) {
            if (limit < 0 || limit > 250) return OUTSIDE;
            if (memory == 0) return STATE;
            runs++;
            told = new Machine(left, right, memory, kind, limit).go();
            return told.broke ? -2 : told.out.size();
        }

        int out(int n, int what) {
            if (n < 0 || n >= told.out.size()) return UNKNOWN;
            return what < 0 || what > 1 ? OUTSIDE : told.out.get(n)[what];
        }

        int log(int n, int what) {
            if (n < 0 || n >= told.log.size()) return UNKNOWN;
            return what < 0 || what > 2 ? OUTSIDE : told.log.get(n)[what];
        }

        int ledger(int what) { return what < 0 || what > 9 ? OUTSIDE : told.ledger(what); }

        int spare() {
            if (memory == 0) return STATE;
            for (int m = 1; m <= 9; m++) {
                if (new Machine(left, right, m, kind, Integer.MAX_VALUE).go().written == 0) return m;
            }
            return NONE;
        }

        int see(int what, boolean comes) {
            if (what < 0 || what > 3) return OUTSIDE;
            if (memory == 0) return STATE;
            if (seen.size() == 6) return FULL;
            seen.add(new int[] {what, comes ? 1 : 0});
            return seen.size();
        }

        int forget() { int n = seen.size(); seen = new ArrayList<>(); return n; }

        int sorts(int what) {
            if (what < 0 || what > 1) return OUTSIDE;
            List<Integer> can = new ArrayList<>();
            for (int k = 0; k < 5; k++) {
                boolean so = true;
                for (int[] s : seen) so &= SHOWS[k][s[0]] == (s[1] == 1);
                if (so) can.add(k);
            }
            if (what == 0) return can.stream().mapToInt(k -> 1 << k).sum();
            int best = NONE, least = 99;
            for (int q = 0; q < 4 && !can.isEmpty(); q++) {
                int yes = 0;
                for (int k : can) if (SHOWS[k][q]) yes++;
                int worst = Math.max(yes, can.size() - yes);
                if (worst < least) { least = worst; best = q; }
            }
            return best;
        }

        int drawn(int times, int seed, int what) {
            if (times < 1 || times > 10 || seed < 0 || what < 0 || what > 2) return OUTSIDE;
            if (memory == 0) return STATE;
            long s = seed;
            int[] sum = new int[2];
            for (int t = 0; t < times; t++) {
                List<List<Integer>> drawn = List.of(new ArrayList<>(), new ArrayList<>());
                for (int i = 0; i < 16; i++) {
                    s = java.math.BigInteger.valueOf(s).multiply(java.math.BigInteger.valueOf(1103515245))
                        .add(java.math.BigInteger.valueOf(12345)).mod(java.math.BigInteger.ONE.shiftLeft(31)).longValue();
                    int draw = (int) ((s / 65536) % 17);
                    drawn.get(i / 8).add(draw == 16 ? -1 : draw);
                }
                Told t1 = new Machine(drawn.get(0), drawn.get(1), memory, kind, Integer.MAX_VALUE).go();
                sum[0] += t1.out.size();
                sum[1] += t1.written;
            }
            return what == 2 ? (int) s : sum[what];
        }

        int image() {
            if (memory == 0) return STATE;
            image = new Object[] {new ArrayList<>(left), new ArrayList<>(right), memory, kind, new ArrayList<>(seen)};
            return left.size() + right.size();
        }

        @SuppressWarnings("unchecked")
        int restore() {
            if (image == null) return STATE;
            left = new ArrayList<>((List<Integer>) image[0]);
            right = new ArrayList<>((List<Integer>) image[1]);
            memory = (Integer) image[2];
            kind = (Integer) image[3];
            seen = new ArrayList<>((List<int[]>) image[4]);
            return left.size() + right.size();
        }

        int count(int what) {
            if (what < 0 || what > 9) return OUTSIDE;
            Set<Integer> keys = new HashSet<>(left);
            keys.addAll(right);
            keys.remove(-1);
            int pairs = 0;
            for (int r = 0; r < left.size(); r++) pairs += row(0, r, 1);
            return new int[] {left.size(), right.size(), memory, kind, keys.size(), pairs, runs, seen.size(), page.length(), reads}[what];
        }

        long digest() {
            List<Integer> n = new ArrayList<>();
            for (int s = 0; s < 2; s++) for (int r = 0; r < side(s).size(); r++) { n.add(row(s, r, 0)); n.add(row(s, r, 1)); }
            for (int w = 0; w < 10; w++) n.add(ledger(w));
            for (int[] o : told.out) for (int v : o) n.add(v);
            for (int[] l : told.log) for (int v : l) n.add(v);
            if (memory != 0) n.add(spare());
            n.add(sorts(0));
            n.add(sorts(1));
            for (char c : page.toCharArray()) n.add((int) c);
            for (int w = 0; w < 10; w++) n.add(count(w));
            long h = 1373;
            for (int v : n) h = h * 31 + v;
            return h;
        }
    }

    private static int wrong = 0;
    private static int broken = 0;
    private static int deepest = 0;

    private static boolean same(String call, long got, long due) {
        if (got == due) return true;
        wrong++;
        System.out.println(call + " answered " + got + ", due is " + due);
        return false;
    }

    private static int any(Random random, int least, int most) {
        if (random.nextInt(12) == 0) {
            int[] odd = {least - 1, most + 1, Integer.MIN_VALUE, Integer.MAX_VALUE, -1};
            return odd[random.nextInt(odd.length)];
        }
        return least + random.nextInt(most - least + 1);
    }

    private static String text(Random random) {
        StringBuilder text = new StringBuilder();
        text.append((char) ('1' + random.nextInt(random.nextBoolean() ? 3 : 9)));
        text.append("jlasf".charAt(random.nextInt(5))).append(';');
        int keys = 1 + random.nextInt(16);
        for (int side = 0; side < 2; side++) {
            int rows = random.nextInt(4) == 0 ? random.nextInt(3) : random.nextInt(15);
            for (int row = 0; row < rows; row++) {
                text.append(random.nextInt(9) == 0 ? '-' : (char) ('a' + random.nextInt(keys)));
            }
            if (side == 0) text.append(';');
        }
        if (random.nextInt(6) == 0) {
            int place = random.nextInt(text.length());
            text.setCharAt(place, (char) (32 + random.nextInt(95)));
        }
        if (random.nextInt(20) == 0) text.setLength(random.nextInt(text.length()));
        return text.toString();
    }

    private static boolean step(SpillJoin x, Model m, Random r) {
        boolean yes = r.nextBoolean();
        int a = any(r, 0, 1), b = any(r, 0, 13), c;
        switch (r.nextInt(24)) {
            case 0: c = any(r, 32, 126); return same("letter " + c, x.letter(c), m.letter(c));
            case 1: return r.nextInt(3) > 0 || same("blank", x.blank(), m.blank());
            case 2: return same("fault", x.fault(), m.fault());
            case 3: return same("tables", x.tables(), m.tables());
            case 4: c = any(r, 0, 1); return same("row " + a + " " + b + " " + c, x.row(a, b, c), m.row(a, b, c));
            case 5: c = any(r, 0, 4); return same("as " + c, x.as(c), m.as(c));
            case 6: case 7: case 8: c = any(r, -1, 15); return same("put " + a + " " + c, x.put(a, c), m.put(a, c));
            case 9: return same("take " + a + " " + b, x.take(a, b), m.take(a, b));
            case 10: c = any(r, -1, 15); return same("key", x.key(a, b, c), m.key(a, b, c));
            case 11: c = any(r, 1, 9); return same("memory " + c, x.memory(c), m.memory(c));
            case 12: c = any(r, 0, 4); return same("be " + c, x.be(c), m.be(c));
            case 13: case 14: c = r.nextInt(3) == 0 ? 250 : any(r, 0, yes ? 30 : 250); return same("run " + c, x.run(c), m.run(c));
            case 15: c = any(r, 0, 40); return same("out " + c + " " + a, x.out(c, a), m.out(c, a));
            case 16: c = any(r, 0, 60); b = any(r, 0, 2); return same("log " + c + " " + b, x.log(c, b), m.log(c, b));
            case 17: c = any(r, 0, 9); return same("ledger " + c, x.ledger(c), m.ledger(c));
            case 18: return same("spare", x.spare(), m.spare());
            case 19: c = any(r, 0, 3); return same("see " + c + " " + yes, x.see(c, yes), m.see(c, yes));
            case 20: return r.nextInt(3) > 0 || same("forget", x.forget(), m.forget());
            case 21: return same("sorts " + a, x.sorts(a), m.sorts(a));
            case 22: a = any(r, 1, 10); b = any(r, 0, Integer.MAX_VALUE - 1); c = any(r, 0, 2);
                return same("drawn " + a + " " + b + " " + c, x.drawn(a, b, c), m.drawn(a, b, c));
            default: return yes ? same("image", x.image(), m.image()) : same("restore", x.restore(), m.restore());
        }
    }

    private static void randomCalls(int seed) {
        Random random = new Random(seed);
        SpillJoin x = new SpillJoin();
        Model m = new Model();
        // What is told behind 512 calls is free: a text has up to 32 letters.
        for (int calls = 0; calls + 40 <= 512 && wrong < 20; calls += 2) {
            if (random.nextInt(60) == 0 || calls == 20) {
                same("blank", x.blank(), m.blank());
                for (char letter : text(random).toCharArray()) {
                    same("letter", x.letter(letter), m.letter(letter));
                    calls++;
                }
                same("fault", x.fault(), m.fault());
                same("tables", x.tables(), m.tables());
                calls += 3;
            }
            boolean fine = step(x, m, random);
            fine &= same("digest", x.digest(), m.digest());
            if (!fine) System.out.println("  in the calls by " + seed + ", call " + calls);
        }
    }

    private static void allOfARun(int seed) {
        Random random = new Random(seed);
        SpillJoin x = new SpillJoin();
        Model m = new Model();
        for (char letter : text(random).toCharArray()) {
            x.letter(letter);
            m.letter(letter);
        }
        same("fault", x.fault(), m.fault());
        same("tables", x.tables(), m.tables());
        for (int kind = 0; kind < 5; kind++) {
            same("be", x.be(kind), m.be(kind));
            for (int limit = 0; limit <= 250; limit = limit < 34 ? limit + 1 : limit + 36) {
                boolean fine = same("run " + limit, x.run(limit), m.run(limit));
                fine &= same("digest", x.digest(), m.digest());
                if (!fine) System.out.println("  in the run of the tables by " + seed + ", kind " + kind);
                if (m.told.broke) broken++;
                deepest = Math.max(deepest, m.told.deepest);
            }
        }
    }

    public static void main(String[] args) {
        for (int seed = 0; seed < 600 && wrong < 20; seed++) randomCalls(seed);
        for (int seed = 1000; seed < 2500 && wrong < 20; seed++) allOfARun(seed);
        if (broken == 0 || deepest < 4) {
            wrong++;
            System.out.println("the tables drawn reach too little: " + broken + " broken off, level " + deepest);
        }
        System.out.println(wrong == 0 ? "all answers are the model's" : wrong + " answers are not the model's");
        if (wrong != 0) System.exit(1);
    }
}
