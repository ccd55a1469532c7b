import java.math.BigInteger;
import java.util.ArrayList;
import java.util.Arrays;
import java.util.List;
import java.util.Random;

/** Holds the class against slow models that go through all drawings, all sets of chords, all folds. */
public final class ModelTest {
    private static final int LEAST = Integer.MIN_VALUE;
    private static int wrong = 0;

    private static void due(String call, long got, long want) {
        if (got != want && wrong++ < 40) {
            System.out.println(call + " answered " + got + ", due is " + want);
        }
    }

    // ---- numbers of a drawing, as the document words them

    private static List<int[]> chords(int[] mate) {
        List<int[]> all = new ArrayList<>();
        for (int a = 0; a < mate.length; a++) {
            if (mate[a] > a) {
                all.add(new int[] {a, mate[a]});
            }
        }
        return all;
    }

    private static boolean cross(int[] c, int[] d) {
        return c[0] < d[0] && d[0] < c[1] && c[1] < d[1] || d[0] < c[0] && c[0] < d[1] && d[1] < c[1];
    }

    private static boolean nest(int[] c, int[] d) {
        return c[0] < d[0] && d[1] < c[1] || d[0] < c[0] && c[1] < d[1];
    }

    private static int pairs(int[] mate, boolean crossing) {
        List<int[]> all = chords(mate);
        int sum = 0;
        for (int i = 0; i < all.size(); i++) {
            for (int j = 0; j < i; j++) {
                sum += (crossing ? cross(all.get(i), all.get(j)) : nest(all.get(i), all.get(j))) ? 1 : 0;
            }
        }
        return sum;
    }

    private static int largestSet(int[] mate, boolean crossing) {
        List<int[]> all = chords(mate);
        int most = 0;
        for (int set = 0; set < 1 << all.size(); set++) {
            boolean each = true;
            for (int i = 0; i < all.size() && each; i++) {
                for (int j = 0; j < i && each; j++) {
                    if ((set >> i & 1) == 1 && (set >> j & 1) == 1) {
                        each = crossing ? cross(all.get(i), all.get(j)) : nest(all.get(i), all.get(j));
                    }
                }
            }
            if (each) {
                most = Math.max(most, Integer.bitCount(set));
            }
        }
        return most;
    }

    private static int handles(int[] mate) {
        List<Integer> joined = new ArrayList<>();
        for (int a = 0; a < mate.length; a++) {
            if (mate[a] >= 0) {
                joined.add(a);
            }
        }
        if (joined.isEmpty()) {
            return 0;
        }
        boolean[] gone = new boolean[joined.size()];
        int rounds = 0;
        for (int i = 0; i < gone.length; i++) {
            if (!gone[i]) {
                rounds++;
                int p = i;
                do {
                    gone[p] = true;
                    p = (joined.indexOf(mate[joined.get(p)]) + 1) % gone.length;
                } while (p != i);
            }
        }
        return (1 + joined.size() / 2 - rounds) / 2;
    }

    private static int open(int[] mate, int place) {
        int sum = 0;
        for (int[] c : chords(mate)) {
            sum += c[0] <= place && place < c[1] ? 1 : 0;
        }
        return sum;
    }

    private static int number(int[] mate, int k) {
        List<int[]> all = chords(mate);
        int sum = 0;
        switch (k) {
            case 0: return all.size();
            case 1: return handles(mate);
            case 2: return pairs(mate, true);
            case 3: return pairs(mate, false);
            case 4:
                for (int a = 1; a < mate.length; a++) {
                    sum += open(mate, a) == 0 && open(mate, a - 1) > 0 ? 1 : 0;
                }
                return sum;
            case 5: return largestSet(mate, true);
            case 6: return largestSet(mate, false);
            case 7:
                for (int[] c : all) {
                    sum = sum == 0 ? c[1] - c[0] : Math.min(sum, c[1] - c[0]);
                }
                return sum;
            case 8:
                for (int[] c : all) {
                    sum += outer(mate, c[0], c[1]) ? 0 : 1;
                }
                return sum;
            default: return -2;
        }
    }

    private static boolean outer(int[] mate, int a, int b) {
        return a > 0 && b + 1 < mate.length && mate[a - 1] == b + 1;
    }

    /** One thing goes at a time, the last that may. */
    private static int[] shape(int[] mate) {
        for (int a = mate.length - 1; a >= 0; a--) {
            if (mate[a] < 0) {
                return shape(without(mate, a));
            }
        }
        for (int a = mate.length - 1; a >= 0; a--) {
            if (mate[a] > a && outer(mate, a, mate[a])) {
                int[] next = mate.clone();
                next[mate[a]] = -1;
                next[a] = -1;
                return shape(next);
            }
        }
        return mate;
    }

    private static int[] without(int[] mate, int gone) {
        int[] next = new int[mate.length - 1];
        for (int a = 0; a < mate.length; a++) {
            if (a != gone) {
                next[a > gone ? a - 1 : a] = mate[a] > gone ? mate[a] - 1 : mate[a];
            }
        }
        return next;
    }

    private static int worth(int[] mate, int i) {
        if (mate[i] > i) {
            return 1;
        }
        int sum = 2;
        for (int[] c : chords(mate)) {
            sum += c[0] > mate[i] && c[0] < i && c[1] > i ? 1 : 0;
        }
        return sum;
    }

    private static boolean full(int[] mate) {
        return 2 * chords(mate).size() == mate.length;
    }

    // ---- full drawings

    /** All full drawings, in order by the partners of point 0, point 1 and so on. */
    private static List<int[]> fullDrawings(int n) {
        List<int[]> all = new ArrayList<>();
        int[] mate = new int[2 * n];
        Arrays.fill(mate, -1);
        addFull(mate, all);
        all.sort(Arrays::compare);
        return all;
    }

    private static void addFull(int[] mate, List<int[]> all) {
        int last = mate.length - 1;
        while (last >= 0 && mate[last] >= 0) {
            last--;
        }
        if (last < 0) {
            all.add(mate.clone());
            return;
        }
        for (int b = 0; b < last; b++) {
            if (mate[b] < 0) {
                mate[b] = last;
                mate[last] = b;
                addFull(mate, all);
                mate[b] = -1;
                mate[last] = -1;
            }
        }
    }

    private static void ordersAndTallies() {
        for (int n = 0; n <= 6; n++) {
            List<int[]> all = fullDrawings(n);
            long[][] tally = new long[3][70];
            ChordFolds x = new ChordFolds();
            int calls = 0;
            for (int k = 0; k < all.size(); k++) {
                int[] mate = all.get(k);
                for (int way = 0; way < 3; way++) {
                    tally[way][number(mate, 1 + way)]++;
                }
                if (n <= 5 || k % 7 == 0) {
                    if (calls > 400) {
                        x = new ChordFolds();
                        calls = 0;
                    }
                    calls += oneFull(x, n, k, mate);
                    ChordFolds y = new ChordFolds();
                    due("row", y.row(n, k), 1);
                    allNumbers("row(" + n + ", " + k + ")", y);
                }
            }
            due("row of too many", new ChordFolds().row(n, all.size()), -2);
            ChordFolds y = new ChordFolds();
            for (int way = 0; way < 3; way++) {
                for (int v = -2; v < 70; v++) {
                    due("many(" + way + ", " + n + ", " + v + ")", y.many(way, n, v), v < 0 ? 0 : tally[way][v]);
                }
            }
        }
    }

    private static int oneFull(ChordFolds x, int n, int k, int[] mate) {
        due("row", x.row(n, k), 1);
        due("place", x.place(), k);
        sameMates("row(" + n + ", " + k + ")", x, mate);
        for (int i = 0; i < 2 * n; i++) {
            due("worth", x.worth(i), worth(mate, i));
            due("sign", x.sign(worth(mate, i)), i + 1);
        }
        due("points", x.points(0), 1);
        due("draw", x.draw(), n);
        sameMates("draw of row(" + n + ", " + k + ")", x, mate);
        return 8 * n + 10;
    }

    private static void sameMates(String call, ChordFolds x, int[] mate) {
        due(call + ": points", x.count(0), mate.length);
        for (int a = 0; a < mate.length; a++) {
            due(call + ": at(" + a + ")", x.at(a), mate[a]);
        }
    }

    private static BigInteger choose(int n, int k) {
        BigInteger c = BigInteger.ONE;
        if (k < 0 || n < k) {
            return BigInteger.ZERO;
        }
        for (int i = 0; i < k; i++) {
            c = c.multiply(BigInteger.valueOf(n - i)).divide(BigInteger.valueOf(i + 1));
        }
        return c;
    }

    /** The formula of Touchard and Riordan, n at least 1. */
    private static long byCrossings(int n, int v) {
        BigInteger sum = BigInteger.ZERO;
        for (int k = -n; k <= n; k++) {
            int rest = v - k * (k - 1) / 2;
            if (rest >= 0) {
                BigInteger term = choose(2 * n, n + k).multiply(choose(rest + n - 1, n - 1));
                sum = k % 2 == 0 ? sum.add(term) : sum.subtract(term);
            }
        }
        return sum.longValueExact();
    }

    private static void formulas() {
        BigInteger odd = BigInteger.ONE;
        for (int n = 1; n <= 12; n++) {
            odd = odd.multiply(BigInteger.valueOf(2 * n - 1));
            ChordFolds x = new ChordFolds();
            for (int v = 0; v < 70; v++) {
                due("many(1, " + n + ", " + v + ")", x.many(1, n, v), byCrossings(n, v));
                due("many(2, " + n + ", " + v + ")", x.many(2, n, v), byCrossings(n, v));
            }
            // With N^(rounds) for each drawing, the closed sum of Harer and Zagier.
            for (int big = 1; big <= 9; big++) {
                BigInteger got = BigInteger.ZERO;
                for (int g = 0; 2 * g <= n; g++) {
                    got = got.add(BigInteger.valueOf(x.many(0, n, g)).multiply(BigInteger.valueOf(big).pow(n + 1 - 2 * g)));
                }
                BigInteger sum = BigInteger.ZERO;
                for (int k = 0; k <= n; k++) {
                    sum = sum.add(choose(n, k).multiply(choose(big, k + 1)).shiftLeft(k));
                }
                due("handles of " + n + " at " + big, got.subtract(sum.multiply(odd)).signum(), 0);
            }
        }
    }

    // ---- drawings of many chords

    private static int[] matesOf(ChordFolds x) {
        int[] mate = new int[x.count(0)];
        for (int a = 0; a < mate.length; a++) {
            mate[a] = x.at(a);
        }
        return mate;
    }

    /** Numbers and heights of the drawing at hand, then of its mirror image and of its shape. */
    private static void allNumbers(String name, ChordFolds x) {
        int[] mate = matesOf(x);
        for (int k = 0; k <= 8; k++) {
            due(name + ": number(" + k + ")", x.number(k), number(mate, k));
        }
        for (int a = 0; a < mate.length; a++) {
            due(name + ": height(" + a + ")", x.height(a), open(mate, a));
        }
        due(name + ": mirror()", x.mirror(), 1);
        int[] turned = new int[mate.length];
        for (int a = 0; a < mate.length; a++) {
            turned[mate.length - 1 - a] = mate[a] < 0 ? -1 : mate.length - 1 - mate[a];
        }
        sameMates(name + ": mirror()", x, turned);
        int[] left = shape(turned);
        due(name + ": shape()", x.shape(), left.length);
        sameMates(name + ": shape()", x, left);
    }

    /** Rows that stand in order for any two numbers are the order itself, as no row comes twice. */
    private static void manyChords(long seed) {
        Random r = new Random(seed);
        ChordFolds x = new ChordFolds();
        int n = 7 + r.nextInt(6);
        long drawings = 1;
        for (int odd = 3; odd < 2 * n; odd += 2) {
            drawings *= odd;
        }
        String name = "seed " + seed + ", " + n + " chords";
        long k = (long) (r.nextDouble() * (drawings - 1));
        due(name + ": row", x.row(n, k), 1);
        int[] mate = matesOf(x);
        due(name + ": place()", x.place(), k);
        for (int i = 0; i < 2 * n; i++) {
            due(name + ": worth(" + i + ")", x.worth(i), worth(mate, i));
            due(name + ": sign", x.sign(worth(mate, i)), i + 1);
        }
        due(name + ": row of the next", x.row(n, k + 1), 1);
        due(name + ": the next comes behind", Arrays.compare(mate, matesOf(x)) < 0 ? 1 : 0, 1);
        due(name + ": draw()", x.draw(), n);
        sameMates(name + ": draw()", x, mate);
        // Some chords go, so that free points stand between those that stay.
        for (int gone = r.nextInt(4); gone > 0; gone--) {
            x.part(r.nextInt(2 * n));
        }
        allNumbers(name, x);
    }

    // ---- the whole object, call by call

    /** The state of an object, with answers by search. */
    private static final class Model {
        int[] mate = filled(8);
        final List<Integer> signs = new ArrayList<>();
        final List<Integer> letters = new ArrayList<>();
        final int[][] scores = new int[4][4];
        int gap = 3;
        int bonus = 0;
        // What a search through all folds found.
        long all;
        long bestOnes;
        int best;
        int[] first;

        Model() {
            for (int[] row : scores) {
                Arrays.fill(row, 21);
            }
        }

        static int[] filled(int n) {
            int[] row = new int[n];
            Arrays.fill(row, -1);
            return row;
        }

        boolean has(int a) {
            return a >= 0 && a < mate.length;
        }

        int openSigns() {
            int open = 0;
            for (int v : signs) {
                open += v == 1 ? 1 : -1;
            }
            return open;
        }

        int sign(int v) {
            if (signs.size() == 24 || v < 1 || v > 1 && v - 2 >= openSigns()) {
                return -2;
            }
            signs.add(v);
            return signs.size();
        }

        int draw() {
            if (openSigns() > 0) {
                return -3;
            }
            mate = filled(signs.size());
            List<Integer> open = new ArrayList<>();
            for (int i = 0; i < signs.size(); i++) {
                if (signs.get(i) == 1) {
                    open.add(i);
                } else {
                    int a = open.remove(open.size() - 1 - (signs.get(i) - 2));
                    mate[a] = i;
                    mate[i] = a;
                }
            }
            signs.clear();
            return mate.length / 2;
        }

        int judge(int[] drawn) {
            if (drawn.length != letters.size() || pairs(drawn, true) > 0) {
                return LEAST;
            }
            int sum = 0;
            for (int[] c : chords(drawn)) {
                int s = scores[letters.get(c[0])][letters.get(c[1])];
                if (s == 21 || c[1] - c[0] <= gap) {
                    return LEAST;
                }
                sum += s + (outer(drawn, c[0], c[1]) ? bonus : 0);
            }
            return sum;
        }

        void search() {
            all = 0;
            bestOnes = 0;
            best = Integer.MAX_VALUE;
            first = null;
            tryFrom(0, filled(letters.size()));
        }

        /** Every drawing, crossings too, in the order of folds: judged when it is whole. */
        void tryFrom(int a, int[] drawn) {
            if (a == drawn.length) {
                int s = judge(drawn);
                if (s != LEAST) {
                    all++;
                    bestOnes = s < best ? 1 : s == best ? bestOnes + 1 : bestOnes;
                    first = s < best ? drawn.clone() : first;
                    best = Math.min(best, s);
                }
                return;
            }
            tryFrom(a + 1, drawn);
            if (drawn[a] >= 0) {
                return;
            }
            for (int b = a + 1; b < drawn.length; b++) {
                if (drawn[b] < 0 && scores[letters.get(a)][letters.get(b)] != 21 && b - a > gap) {
                    drawn[a] = b;
                    drawn[b] = a;
                    tryFrom(a + 1, drawn);
                    drawn[a] = -1;
                    drawn[b] = -1;
                }
            }
        }

        int[] mirrored() {
            int[] next = filled(mate.length);
            for (int[] c : chords(mate)) {
                next[mate.length - 1 - c[0]] = mate.length - 1 - c[1];
                next[mate.length - 1 - c[1]] = mate.length - 1 - c[0];
            }
            return next;
        }
    }

    private static int pick(Random r, int from, int to) {
        int odd = r.nextInt(40);
        return odd == 0 ? Integer.MAX_VALUE : odd == 1 ? Integer.MIN_VALUE : from + r.nextInt(to - from + 1);
    }

    private static void drawingCall(Random r, ChordFolds x, Model m) {
        int a = pick(r, -1, m.mate.length);
        int b = pick(r, -1, m.mate.length);
        boolean points = m.has(a) && m.has(b) && a != b;
        switch (r.nextInt(12)) {
            case 0:
                if (r.nextInt(8) == 0) {
                    int l = pick(r, -1, 25);
                    due("points(" + l + ")", x.points(l), l < 0 || l > 24 ? -2 : 1);
                    m.mate = l < 0 || l > 24 ? m.mate : Model.filled(l);
                }
                break;
            case 1:
                due("part(" + a + ")", x.part(a), !m.has(a) ? -2 : m.mate[a] < 0 ? -3 : m.mate[a]);
                if (m.has(a) && m.mate[a] >= 0) {
                    m.mate[m.mate[a]] = -1;
                    m.mate[a] = -1;
                }
                break;
            case 2:
                int k = pick(r, -1, 9);
                due("number(" + k + ")", x.number(k), number(m.mate, k));
                break;
            case 3:
                due("height(" + a + ")", x.height(a), m.has(a) ? open(m.mate, a) : -2);
                break;
            case 4:
                if (r.nextInt(6) == 0) {
                    m.mate = shape(m.mate);
                    due("shape()", x.shape(), m.mate.length);
                }
                break;
            case 5:
                m.mate = m.mirrored();
                due("mirror()", x.mirror(), 1);
                break;
            case 6:
                due("worth(" + a + ")", x.worth(a), !full(m.mate) ? -3 : !m.has(a) ? -2 : worth(m.mate, a));
                break;
            default:
                boolean free = points && m.mate[a] < 0 && m.mate[b] < 0;
                if (free) {
                    m.mate[a] = b;
                    m.mate[b] = a;
                }
                due("join(" + a + ", " + b + ")", x.join(a, b), !points ? -2 : !free ? -3 : chords(m.mate).size());
        }
    }

    private static void signCall(Random r, ChordFolds x, Model m) {
        int v = r.nextInt(3) == 0 ? 1 : pick(r, -1, m.openSigns() + 2);
        due("sign(" + v + ")", x.sign(v), m.sign(v));
        if (r.nextInt(4) == 0) {
            due("draw()", x.draw(), m.draw());
        }
    }

    private static void strandCall(Random r, ChordFolds x, Model m) {
        int v = pick(r, -22, 23);
        int a = pick(r, -1, 4);
        int b = pick(r, -1, 4);
        switch (r.nextInt(7)) {
            case 0:
                boolean can = a >= 0 && a < 4 && b >= 0 && b < 4 && v >= -20 && v <= 21;
                due("score(" + a + ", " + b + ", " + v + ")", x.score(a, b, v), can ? m.scores[a][b] : LEAST);
                if (can) {
                    m.scores[a][b] = v;
                    m.scores[b][a] = v;
                }
                break;
            case 1:
                due("set(0, " + b + ")", x.set(0, b), b >= 0 && b <= 8 ? m.gap : LEAST);
                m.gap = b >= 0 && b <= 8 ? b : m.gap;
                break;
            case 2:
                due("set(1, " + v + ")", x.set(1, v), v >= -20 && v <= 20 ? m.bonus : LEAST);
                m.bonus = v >= -20 && v <= 20 ? v : m.bonus;
                break;
            case 3:
                if (m.letters.size() > 10) {
                    due("wipe()", x.wipe(), m.letters.size());
                    m.letters.clear();
                }
                break;
            default:
                boolean letter = a >= 0 && a < 4;
                if (letter) {
                    m.letters.add(a);
                }
                due("letter(" + a + ")", x.letter(a), letter ? m.letters.size() : -2);
        }
    }

    private static void foldCalls(Random r, ChordFolds x, Model m) {
        m.search();
        due("best()", x.best(), m.best);
        due("folds(0)", x.folds(0), m.all);
        due("folds(1)", x.folds(1), m.bestOnes);
        due("judge()", x.judge(), m.judge(m.mate));
        if (r.nextInt(2) == 0) {
            m.mate = m.first.clone();
            due("fold()", x.fold(), m.best);
            due("judge()", x.judge(), m.best);
        }
    }

    private static void sameState(ChordFolds x, Model m) {
        sameMates("state", x, m.mate);
        due("count(1)", x.count(1), m.letters.size());
        due("count(2)", x.count(2), m.signs.size());
        due("count(3)", x.count(3), m.openSigns());
    }

    private static void randomRun(long seed) {
        Random r = new Random(seed);
        ChordFolds x = new ChordFolds();
        Model m = new Model();
        int kind = r.nextInt(3);
        int before = wrong;
        for (int call = 0; call < 60 && wrong == before; call++) {
            int what = r.nextInt(8);
            if (what == 0 || what < 5 && kind == 0) {
                drawingCall(r, x, m);
            } else if (what == 1 || what < 6 && kind == 1) {
                signCall(r, x, m);
            } else if (what < 7) {
                strandCall(r, x, m);
            } else if (m.letters.size() <= 11) {
                foldCalls(r, x, m);
            }
            if (call % 20 == 0) {
                sameState(x, m);
            }
        }
        sameState(x, m);
        if (wrong != before) {
            System.out.println("in the run of seed " + seed);
        }
    }

    /** Scores in a narrow range, so that many folds are best and the first one matters. */
    private static void narrowStrand(long seed) {
        Random r = new Random(seed);
        ChordFolds x = new ChordFolds();
        Model m = new Model();
        int n = r.nextInt(10);
        for (int i = 0; i < n; i++) {
            int v = r.nextInt(4);
            m.letters.add(v);
            x.letter(v);
        }
        for (int a = 0; a < 4; a++) {
            for (int b = 0; b <= a; b++) {
                int v = r.nextInt(4) == 0 ? 21 : r.nextInt(5) - 3;
                m.scores[a][b] = v;
                m.scores[b][a] = v;
                x.score(b, a, v);
            }
        }
        m.gap = r.nextInt(3);
        m.bonus = r.nextInt(9) - 4;
        x.set(0, m.gap);
        x.set(1, m.bonus);
        int before = wrong;
        foldCalls(r, x, m);
        sameState(x, m);
        if (wrong != before) {
            System.out.println("in the strand of seed " + seed);
        }
    }

    /** What must hold between the answers for strands too long to search through. */
    private static void longStrand(long seed) {
        Random r = new Random(seed);
        ChordFolds x = new ChordFolds();
        int n = 18 + r.nextInt(7);
        for (int i = 0; i < n; i++) {
            due("letter", x.letter(r.nextInt(4)), i + 1);
        }
        for (int i = 0; i < 10; i++) {
            x.score(r.nextInt(4), r.nextInt(4), r.nextInt(42) - 20);
        }
        x.set(0, r.nextInt(9));
        x.set(1, r.nextInt(41) - 20);
        int best = x.best();
        due("best is 0 at most", best <= 0 ? 1 : 0, 1);
        due("fold", x.fold(), best);
        due("judge of fold", x.judge(), best);
        due("points of fold", x.count(0), n);
        due("crossings of fold", x.number(2), 0);
        long ways = x.folds(1);
        due("some are best, and no more than all", ways >= 1 && ways <= x.folds(0) ? 1 : 0, 1);
        due("mirror", x.mirror(), 1);
        for (int a = 0; a < n; a++) {
            due("part", x.part(a) >= -3 ? 1 : 0, 1);
        }
        due("judge of no chords", x.judge(), 0);
    }

    public static void main(String[] args) {
        ordersAndTallies();
        formulas();
        for (int seed = 0; seed < 400; seed++) {
            manyChords(seed);
        }
        for (int seed = 0; seed < 2500; seed++) {
            randomRun(seed);
        }
        for (int seed = 0; seed < 2500; seed++) {
            narrowStrand(seed);
        }
        for (int seed = 0; seed < 500; seed++) {
            longStrand(seed);
        }
        System.out.println(wrong == 0 ? "all answers are as due" : wrong + " answers are not as due");
        if (wrong != 0) {
            System.exit(1);
        }
    }
}
