import java.util.Arrays;
import java.util.Random;

/**
 * Strands up to 24 letters, too long to go through all folds: held against another way to count, that
 * splits a stretch at its last point and weighs each chord with what lies under it.
 */
public final class LongStrandTest {
    private static final int FREE = -2;
    private static final int NONE = -1;
    private static final int BARRED = 21;
    private static final long NO_FOLD = Long.MAX_VALUE;
    private static int wrong = 0;

    private static void due(String call, long got, long want) {
        if (got != want && wrong++ < 40) {
            System.out.println(call + " answered " + got + ", due is " + want);
        }
    }

    /** The least score of some folds, and how many have it. */
    private record Weight(long least, long ways) {
        static final Weight NOTHING = new Weight(NO_FOLD, 0);
        static final Weight BARE = new Weight(0, 1);

        Weight or(Weight w) {
            if (least != w.least) {
                return least < w.least ? this : w;
            }
            return new Weight(least, ways + w.ways);
        }

        Weight and(Weight w) {
            return ways == 0 || w.ways == 0 ? NOTHING : new Weight(least + w.least, ways * w.ways);
        }

        Weight plus(long score) {
            return ways == 0 ? NOTHING : new Weight(least + score, ways);
        }
    }

    private static final class Model {
        final int[] letters;
        final int[][] scores = new int[4][4];
        int gap;
        int bonus;
        /** What is settled of each point: FREE, NONE or its partner. */
        final int[] settled;

        Model(int[] letters) {
            this.letters = letters;
            settled = new int[letters.length];
            Arrays.fill(settled, FREE);
        }

        boolean mayJoin(int a, int b) {
            return b - a > gap && scores[letters[a]][letters[b]] != BARRED
                && (settled[a] == FREE || settled[a] == b) && (settled[b] == FREE || settled[b] == a);
        }

        /** Folds that keep to what is settled; without scores all of them are counted. */
        Weight weigh(boolean scored) {
            int n = letters.length;
            // open[a][e]: points a .. e - 1; shut[a][b]: chord (a, b) with all that is under it.
            Weight[][] open = new Weight[n + 1][n + 1];
            Weight[][] shut = new Weight[n + 1][n + 1];
            for (int length = 0; length <= n; length++) {
                for (int a = 0; a + length <= n; a++) {
                    int e = a + length;
                    if (length >= 2) {
                        shut[a][e - 1] = shutOf(a, e - 1, open, shut, scored);
                    }
                    open[a][e] = length == 0 ? Weight.BARE : openOf(a, e, a, open, shut);
                }
            }
            return open[0][n];
        }

        /** The last point is without chord, or joined to one from a lowest partner on. */
        private Weight openOf(int a, int e, int lowest, Weight[][] open, Weight[][] shut) {
            int b = e - 1;
            Weight sum = settled[b] < 0 ? open[a][b] : Weight.NOTHING;
            for (int c = lowest; c < b; c++) {
                sum = sum.or(open[a][c].and(shut[c][b]));
            }
            return sum;
        }

        private Weight shutOf(int a, int b, Weight[][] open, Weight[][] shut, boolean scored) {
            if (!mayJoin(a, b)) {
                return Weight.NOTHING;
            }
            Weight under = b - a == 1 ? Weight.BARE : openOf(a + 1, b, a + 2, open, shut);
            if (b - a > 2) {
                under = under.or(shut[a + 1][b - 1].plus(scored ? bonus : 0));
            }
            return under.plus(scored ? scores[letters[a]][letters[b]] : 0);
        }

        /** Settles point by point: without chord, then the partners from the least on. */
        int[] first() {
            long best = weigh(true).least;
            for (int a = 0; a < letters.length; a++) {
                if (settled[a] == FREE) {
                    settle(a, best);
                }
            }
            int[] found = settled.clone();
            Arrays.fill(settled, FREE);
            return found;
        }

        private void settle(int a, long best) {
            settled[a] = NONE;
            if (weigh(true).least == best) {
                return;
            }
            for (int b = a + 1; b < letters.length; b++) {
                if (settled[b] == FREE) {
                    settled[a] = b;
                    settled[b] = a;
                    if (weigh(true).least == best) {
                        return;
                    }
                    settled[b] = FREE;
                }
            }
        }
    }

    private static void hold(String name, Model m) {
        ChordFolds x = new ChordFolds();
        for (int i = 0; i < m.letters.length; i++) {
            due(name + ": letter", x.letter(m.letters[i]), i + 1);
        }
        for (int a = 0; a < 4; a++) {
            for (int b = a; b < 4; b++) {
                due(name + ": score", x.score(a, b, m.scores[a][b]), BARRED);
            }
        }
        due(name + ": gap", x.set(0, m.gap), 3);
        due(name + ": bonus", x.set(1, m.bonus), 0);
        Weight best = m.weigh(true);
        due(name + ": folds(1)", x.folds(1), best.ways);
        due(name + ": folds(0)", x.folds(0), m.weigh(false).ways);
        due(name + ": best()", x.best(), best.least);
        due(name + ": fold()", x.fold(), best.least);
        int[] first = m.first();
        due(name + ": count(0)", x.count(0), first.length);
        for (int a = 0; a < first.length; a++) {
            due(name + ": at(" + a + ")", x.at(a), first[a]);
        }
        due(name + ": judge()", x.judge(), best.least);
    }

    private static Model random(long seed) {
        Random r = new Random(seed);
        int[] letters = new int[12 + r.nextInt(13)];
        int kinds = 1 + r.nextInt(4);
        for (int i = 0; i < letters.length; i++) {
            letters[i] = r.nextInt(kinds);
        }
        Model m = new Model(letters);
        // Narrow scores make many folds best; wide ones reach the ends.
        int reach = r.nextInt(2) == 0 ? 2 : 20;
        for (int a = 0; a < 4; a++) {
            for (int b = a; b < 4; b++) {
                int v = r.nextInt(4) == 0 ? BARRED : r.nextInt(2 * reach + 1) - reach;
                m.scores[a][b] = v;
                m.scores[b][a] = v;
            }
        }
        m.gap = r.nextInt(r.nextInt(2) == 0 ? 3 : 9);
        m.bonus = r.nextInt(2 * reach + 1) - reach;
        return m;
    }

    public static void main(String[] args) {
        for (int seed = 0; seed < 400; seed++) {
            hold("seed " + seed, random(seed));
        }
        System.out.println(wrong == 0 ? "all answers are as due" : wrong + " answers are not as due");
        if (wrong != 0) {
            System.exit(1);
        }
    }
}
