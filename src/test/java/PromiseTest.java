/** For each promise of the document: ordinary inputs, edges and wrong inputs. */
public final class PromiseTest {
    private static final long LEAST = Integer.MIN_VALUE;
    private static int wrong = 0;
    private static int promise = 0;

    private static void due(String call, long got, long want) {
        if (got != want) {
            wrong++;
            System.out.println("promise " + promise + ": " + call + " answered " + got + ", due is " + want);
        }
    }

    /** An object with so many points and the chords told as pairs of points. */
    private static ChordFolds drawn(int l, int... ends) {
        ChordFolds x = new ChordFolds();
        due("points", x.points(l), 1);
        for (int i = 0; i + 1 < ends.length; i += 2) {
            due("join", x.join(ends[i], ends[i + 1]), i / 2 + 1);
        }
        return x;
    }

    private static void letters(ChordFolds x, int... row) {
        for (int i = 0; i < row.length; i++) {
            due("letter", x.letter(row[i]), i + 1);
        }
    }

    private static void mates(ChordFolds x, int... want) {
        due("count(0)", x.count(0), want.length);
        for (int i = 0; i < want.length; i++) {
            due("at(" + i + ")", x.at(i), want[i]);
        }
    }

    private static void numbers(ChordFolds x, int... want) {
        for (int k = 0; k < want.length; k++) {
            due("number(" + k + ")", x.number(k), want[k]);
        }
    }

    private static void newObject() {
        promise = 1;
        ChordFolds x = new ChordFolds();
        mates(x, -1, -1, -1, -1, -1, -1, -1, -1);
        for (int what = 1; what < 4; what++) {
            due("count(" + what + ")", x.count(what), 0);
        }
        for (int a = 0; a < 4; a++) {
            for (int b = 0; b < 4; b++) {
                due("score", x.score(a, b, 21), 21);
            }
        }
        due("gap", x.set(0, 3), 3);
        due("bonus", x.set(1, 0), 0);
        due("NONE", ChordFolds.NONE, -1);
        due("BAD", ChordFolds.BAD, -2);
        due("NOT", ChordFolds.NOT, -3);
        due("FULL", ChordFolds.FULL, -4);
    }

    private static void points() {
        promise = 2;
        ChordFolds x = drawn(8, 0, 7, 1, 2);
        due("points(25)", x.points(25), -2);
        due("points(-1)", x.points(-1), -2);
        due("points(max)", x.points(Integer.MAX_VALUE), -2);
        due("points(min)", x.points(Integer.MIN_VALUE), -2);
        mates(x, 7, 2, 1, -1, -1, -1, -1, 0);
        due("points(8)", x.points(8), 1);
        mates(x, -1, -1, -1, -1, -1, -1, -1, -1);
        due("points(24)", x.points(24), 1);
        due("join(23, 0)", x.join(23, 0), 1);
        due("points(0)", x.points(0), 1);
        mates(x);
        due("points(24)", x.points(24), 1);
        due("at(23)", x.at(23), -1);
        due("count(0)", x.count(0), 24);
    }

    private static void join() {
        promise = 3;
        ChordFolds x = drawn(5, 4, 1);
        mates(x, -1, 4, -1, -1, 1);
        due("join(0, 5)", x.join(0, 5), -2);
        due("join(5, 0)", x.join(5, 0), -2);
        due("join(-1, 0)", x.join(-1, 0), -2);
        due("join(0, -1)", x.join(0, -1), -2);
        due("join(2, 2)", x.join(2, 2), -2);
        due("join(1, 1), BAD ahead of NOT", x.join(1, 1), -2);
        due("join(1, 5), BAD ahead of NOT", x.join(1, 5), -2);
        due("join(min, max)", x.join(Integer.MIN_VALUE, Integer.MAX_VALUE), -2);
        due("join(1, 0)", x.join(1, 0), -3);
        due("join(0, 4)", x.join(0, 4), -3);
        due("join(1, 4)", x.join(1, 4), -3);
        mates(x, -1, 4, -1, -1, 1);
        due("join(3, 0)", x.join(3, 0), 2);
        mates(x, 3, 4, -1, 0, 1);
    }

    private static void part() {
        promise = 4;
        ChordFolds x = drawn(4, 0, 3, 1, 2);
        due("part(4)", x.part(4), -2);
        due("part(-1)", x.part(-1), -2);
        due("part(min)", x.part(Integer.MIN_VALUE), -2);
        due("part(3)", x.part(3), 0);
        mates(x, -1, 2, 1, -1);
        due("part(0)", x.part(0), -3);
        due("part(1)", x.part(1), 2);
        due("part(2)", x.part(2), -3);
        mates(x, -1, -1, -1, -1);
        due("join(0, 1)", x.join(0, 1), 1);
    }

    private static void at() {
        promise = 5;
        ChordFolds x = drawn(3, 2, 0);
        mates(x, 2, -1, 0);
        due("at(3)", x.at(3), -2);
        due("at(-1)", x.at(-1), -2);
        due("at(max)", x.at(Integer.MAX_VALUE), -2);
        due("at(min)", x.at(Integer.MIN_VALUE), -2);
        x.points(0);
        due("at(0)", x.at(0), -2);
    }

    private static void number() {
        promise = 6;
        numbers(drawn(24), 0, 0, 0, 0, 0, 0, 0, 0, 0, -2);
        numbers(drawn(0), 0, 0, 0, 0, 0, 0, 0, 0, 0, -2);
        numbers(drawn(9, 2, 7), 1, 0, 0, 0, 1, 1, 1, 5, 1);
        numbers(drawn(2, 0, 1), 1, 0, 0, 0, 1, 1, 1, 1, 1);
        numbers(drawn(6, 0, 3, 1, 4), 2, 1, 1, 0, 1, 2, 1, 3, 2);
        // A stack, a crossing apart from it, and a free point inside a chord.
        numbers(drawn(11, 0, 4, 1, 3, 5, 8, 7, 10), 4, 1, 1, 1, 2, 2, 2, 2, 3);
        // Two that cross a third but not each other: the tangle stays two.
        numbers(drawn(6, 0, 2, 1, 4, 3, 5), 3, 1, 2, 0, 1, 2, 1, 2, 3);
        // Nested with a free point between: two stacks.
        numbers(drawn(5, 0, 4, 2, 3), 2, 0, 0, 1, 1, 1, 2, 1, 2);
        // Three rounds the line: a chord over others that stand side by side.
        numbers(drawn(8, 0, 7, 1, 2, 3, 4, 5, 6), 4, 0, 0, 3, 1, 1, 2, 1, 4);
        ChordFolds x = drawn(24);
        for (int a = 0; a < 12; a++) {
            x.join(a + 12, a);
        }
        numbers(x, 12, 6, 66, 0, 1, 12, 1, 12, 12);
        x = drawn(8, 0, 7);
        due("number(-1)", x.number(-1), -2);
        due("number(max)", x.number(Integer.MAX_VALUE), -2);
        due("number(min)", x.number(Integer.MIN_VALUE), -2);
    }

    private static void height() {
        promise = 7;
        ChordFolds x = drawn(8, 0, 3, 1, 5, 6, 7);
        int[] want = {1, 2, 2, 1, 1, 0, 1, 0};
        for (int a = 0; a < want.length; a++) {
            due("height(" + a + ")", x.height(a), want[a]);
        }
        due("height(8)", x.height(8), -2);
        due("height(-1)", x.height(-1), -2);
        due("height(max)", x.height(Integer.MAX_VALUE), -2);
    }

    private static void shape() {
        promise = 8;
        ChordFolds x = drawn(24);
        due("no chords", x.shape(), 0);
        mates(x);
        due("no points", x.shape(), 0);
        x = drawn(2, 0, 1);
        due("one short chord", x.shape(), 2);
        mates(x, 1, 0);
        x = drawn(9, 1, 7, 3, 5);
        due("nested behind free points", x.shape(), 2);
        mates(x, 1, 0);
        x = drawn(6, 0, 5, 1, 2, 3, 4);
        due("side by side", x.shape(), 6);
        mates(x, 5, 2, 1, 4, 3, 0);
        // The stack over a crossing goes down to one chord; the crossing stays.
        x = drawn(12, 0, 11, 1, 10, 3, 6, 5, 8);
        due("stack over a crossing", x.shape(), 6);
        mates(x, 5, 3, 4, 1, 2, 0);
        // Each of two stacks that cross each other becomes one chord.
        x = drawn(8, 0, 5, 1, 4, 2, 7, 3, 6);
        due("stacks that cross", x.shape(), 4);
        mates(x, 2, 3, 0, 1);
        due("again", x.shape(), 4);
        x.points(24);
        for (int a = 0; a < 12; a++) {
            x.join(a, 23 - a);
        }
        due("twelve nested", x.shape(), 2);
        mates(x, 1, 0);
    }

    private static void mirror() {
        promise = 9;
        ChordFolds x = drawn(7, 0, 2, 1, 5);
        due("mirror", x.mirror(), 1);
        mates(x, -1, 5, -1, -1, 6, 1, 4);
        due("mirror", x.mirror(), 1);
        mates(x, 2, 5, 0, -1, -1, 1, -1);
        x.points(0);
        due("mirror of nothing", x.mirror(), 1);
        mates(x);
    }

    private static void many() {
        promise = 10;
        ChordFolds x = new ChordFolds();
        for (int way = 0; way < 3; way++) {
            due("none", x.many(way, 0, 0), 1);
            due("none, 1", x.many(way, 0, 1), 0);
            due("one", x.many(way, 1, 0), 1);
            due("-1", x.many(way, 4, -1), 0);
            due("max", x.many(way, 4, Integer.MAX_VALUE), 0);
            due("min", x.many(way, 4, Integer.MIN_VALUE), 0);
            due("n 13", x.many(way, 13, 0), -2);
            due("n -1", x.many(way, -1, 0), -2);
            due("n max", x.many(way, Integer.MAX_VALUE, 0), -2);
        }
        long[][] four = {{14, 70, 21, 0}, {14, 28, 28, 20, 10, 4, 1, 0}, {14, 28, 28, 20, 10, 4, 1, 0}};
        for (int way = 0; way < 3; way++) {
            for (int v = 0; v < four[way].length; v++) {
                due("many(" + way + ", 4, " + v + ")", x.many(way, 4, v), four[way][v]);
            }
        }
        due("many(0, 12, 7)", x.many(0, 12, 7), 0);
        due("many(1, 12, 66)", x.many(1, 12, 66), 1);
        due("many(2, 12, 67)", x.many(2, 12, 67), 0);
        due("way -1", x.many(-1, 0, 0), -2);
        due("way 3", x.many(3, 0, 0), -2);
        due("way max", x.many(Integer.MAX_VALUE, 0, 0), -2);
        mates(x, -1, -1, -1, -1, -1, -1, -1, -1);
    }

    private static void row() {
        promise = 11;
        ChordFolds x = drawn(3, 0, 2);
        due("row(2, 3)", x.row(2, 3), -2);
        due("row(2, -1)", x.row(2, -1), -2);
        due("row(-1, 0)", x.row(-1, 0), -2);
        due("row(13, 0)", x.row(13, 0), -2);
        due("row(max, 0)", x.row(Integer.MAX_VALUE, 0), -2);
        due("row(12, max)", x.row(12, Long.MAX_VALUE), -2);
        due("row(12, min)", x.row(12, Long.MIN_VALUE), -2);
        due("row(3, 2^32)", x.row(3, 1L << 32), -2);
        mates(x, 2, -1, 0);
        int[][] two = {{1, 0, 3, 2}, {2, 3, 0, 1}, {3, 2, 1, 0}};
        for (int k = 0; k < 3; k++) {
            due("row(2, " + k + ")", x.row(2, k), 1);
            mates(x, two[k]);
        }
        due("row(3, 5)", x.row(3, 5), 1);
        mates(x, 2, 5, 0, 4, 3, 1);
        due("row(0, 1)", x.row(0, 1), -2);
        due("row(0, 0)", x.row(0, 0), 1);
        mates(x);
        due("row(12, last)", x.row(12, 316234143224L), 1);
        for (int a = 0; a < 24; a++) {
            due("at(" + a + ")", x.at(a), 23 - a);
        }
    }

    private static void place() {
        promise = 12;
        due("not full", drawn(4, 0, 1).place(), -3);
        due("odd", drawn(3, 0, 1).place(), -3);
        due("no points", drawn(0).place(), 0);
        due("first", drawn(6, 0, 1, 2, 3, 4, 5).place(), 0);
        due("fifth", drawn(6, 0, 2, 1, 5, 3, 4).place(), 5);
        due("last", drawn(6, 0, 5, 1, 4, 2, 3).place(), 14);
        ChordFolds x = new ChordFolds();
        long[] some = {0, 1, 13749310575L, 13749310574L, 158117071612L, 300000000001L, 316234143224L};
        for (long k : some) {
            due("row", x.row(12, k), 1);
            due("place of " + k, x.place(), k);
        }
        x.part(5);
        due("a chord is gone", x.place(), -3);
    }

    private static void worth() {
        promise = 13;
        ChordFolds x = drawn(6, 0, 3, 1, 5, 2, 4);
        int[] want = {1, 1, 1, 4, 2, 2};
        for (int i = 0; i < want.length; i++) {
            due("worth(" + i + ")", x.worth(i), want[i]);
        }
        due("worth(6)", x.worth(6), -2);
        due("worth(-1)", x.worth(-1), -2);
        due("worth(max)", x.worth(Integer.MAX_VALUE), -2);
        x.part(0);
        due("not full", x.worth(1), -3);
        due("not full goes ahead of no such point", x.worth(6), -3);
        due("not full goes ahead of no such point", x.worth(-1), -3);
        due("no points", drawn(0).worth(0), -2);
    }

    private static void sign() {
        promise = 14;
        ChordFolds x = new ChordFolds();
        int[] cannot = {0, -1, 2, 3, Integer.MAX_VALUE, Integer.MIN_VALUE, Integer.MIN_VALUE + 1};
        for (int v : cannot) {
            due("sign(" + v + ") at first", x.sign(v), -2);
        }
        due("sign(1)", x.sign(1), 1);
        due("sign(3), one open", x.sign(3), -2);
        due("sign(1)", x.sign(1), 2);
        due("sign(4), two open", x.sign(4), -2);
        due("count(2)", x.count(2), 2);
        due("count(3)", x.count(3), 2);
        due("sign(3), two open", x.sign(3), 3);
        due("count(3)", x.count(3), 1);
        due("sign(2)", x.sign(2), 4);
        due("sign(2), none open", x.sign(2), -2);
        mates(x, -1, -1, -1, -1, -1, -1, -1, -1);
        for (int i = 5; i <= 24; i++) {
            due("sign(1)", x.sign(1), i);
        }
        due("a 25th that begins", x.sign(1), -2);
        due("a 25th that ends", x.sign(2), -2);
        due("count(2)", x.count(2), 24);
        due("count(3)", x.count(3), 20);
    }

    private static void draw() {
        promise = 15;
        ChordFolds x = drawn(5, 0, 4);
        due("sign(1)", x.sign(1), 1);
        due("one open", x.draw(), -3);
        mates(x, 4, -1, -1, -1, 0);
        due("count(2)", x.count(2), 1);
        int[] rest = {1, 3, 1, 2, 1, 2, 2};
        for (int i = 0; i < rest.length; i++) {
            due("sign(" + rest[i] + ")", x.sign(rest[i]), i + 2);
        }
        due("draw", x.draw(), 4);
        mates(x, 2, 7, 0, 4, 3, 6, 5, 1);
        due("count(2)", x.count(2), 0);
        due("count(3)", x.count(3), 0);
        due("sign(2)", x.sign(2), -2);
        due("draw of the empty row", x.draw(), 0);
        mates(x);
        due("a row after it", x.sign(1), 1);
        due("a row after it", x.sign(2), 2);
        due("draw", x.draw(), 1);
        mates(x, 1, 0);
    }

    private static void letter() {
        promise = 16;
        ChordFolds x = new ChordFolds();
        int[] none = {-1, 4, Integer.MAX_VALUE, Integer.MIN_VALUE};
        for (int v : none) {
            due("letter(" + v + ")", x.letter(v), -2);
        }
        for (int i = 1; i <= 24; i++) {
            due("letter", x.letter(i % 4), i);
        }
        due("a 25th", x.letter(0), -4);
        due("BAD ahead of FULL", x.letter(4), -2);
        due("count(1)", x.count(1), 24);
    }

    private static void wipe() {
        promise = 17;
        ChordFolds x = new ChordFolds();
        due("wipe", x.wipe(), 0);
        letters(x, 0, 1, 2);
        x.set(0, 0);
        x.score(0, 2, -5);
        due("best", x.best(), -5);
        due("wipe", x.wipe(), 3);
        due("count(1)", x.count(1), 0);
        due("best", x.best(), 0);
        due("scores stay", x.score(2, 0, -5), -5);
        due("gap stays", x.set(0, 0), 0);
        letters(x, 0, 0, 0);
        due("best", x.best(), 0);
        due("wipe", x.wipe(), 3);
        due("wipe", x.wipe(), 0);
    }

    private static void score() {
        promise = 18;
        ChordFolds x = new ChordFolds();
        due("score(1, 2, -20)", x.score(1, 2, -20), 21);
        due("the same either way", x.score(2, 1, 20), -20);
        due("the same either way", x.score(1, 2, 21), 20);
        due("barred", x.score(1, 2, 0), 21);
        due("itself", x.score(3, 3, 7), 21);
        due("itself", x.score(3, 3, 7), 7);
        due("score(0, 1) stays", x.score(0, 1, 21), 21);
        int[][] bad = {{4, 0, 0}, {0, 4, 0}, {-1, 0, 0}, {0, -1, 0}, {1, 2, 22}, {1, 2, -21},
            {1, 2, Integer.MAX_VALUE}, {1, 2, Integer.MIN_VALUE}, {Integer.MAX_VALUE, 1, 1}};
        for (int[] b : bad) {
            due("score(" + b[0] + ", " + b[1] + ", " + b[2] + ")", x.score(b[0], b[1], b[2]), LEAST);
        }
        due("nothing changed", x.score(1, 2, 0), 0);
    }

    private static void set() {
        promise = 19;
        ChordFolds x = new ChordFolds();
        due("gap", x.set(0, 8), 3);
        due("gap", x.set(0, 0), 8);
        due("bonus", x.set(1, -20), 0);
        due("bonus", x.set(1, 20), -20);
        int[][] bad = {{0, -1}, {0, 9}, {1, 21}, {1, -21}, {2, 0}, {-1, 0}, {0, Integer.MIN_VALUE},
            {1, Integer.MAX_VALUE}, {Integer.MIN_VALUE, 0}};
        for (int[] b : bad) {
            due("set(" + b[0] + ", " + b[1] + ")", x.set(b[0], b[1]), LEAST);
        }
        due("gap", x.set(0, 1), 0);
        due("bonus", x.set(1, 1), 20);
        // A chord's ends lie more than the gap apart.
        x.score(0, 1, -3);
        letters(x, 0, 2, 2, 1);
        x.set(0, 2);
        due("three apart, gap 2", x.best(), -3);
        x.set(0, 3);
        due("three apart, gap 3", x.best(), 0);
    }

    /** 0 1 0 1 with any chord of 0 and 1, neighbours too. */
    private static ChordFolds fourLetters(int zeroOne) {
        ChordFolds x = new ChordFolds();
        letters(x, 0, 1, 0, 1);
        x.set(0, 0);
        x.score(0, 1, zeroOne);
        return x;
    }

    private static void best() {
        promise = 20;
        due("no strand", new ChordFolds().best(), 0);
        ChordFolds x = fourLetters(-2);
        due("two chords", x.best(), -4);
        x.set(1, -1);
        due("two nested with bonus", x.best(), -5);
        due("the drawing stays", x.count(0), 8);
        due("scores above 0", fourLetters(3).best(), 0);
        x = fourLetters(3);
        x.set(1, -7);
        due("a bonus pays for both", x.best(), -1);
        x.score(0, 1, 21);
        due("barred", x.best(), 0);
    }

    private static void folds() {
        promise = 21;
        ChordFolds x = new ChordFolds();
        due("no strand", x.folds(0), 1);
        due("no strand", x.folds(1), 1);
        due("folds(2)", x.folds(2), -2);
        due("folds(-1)", x.folds(-1), -2);
        due("folds(max)", x.folds(Integer.MAX_VALUE), -2);
        x = fourLetters(-2);
        // None; 01, 03, 12, 23; 01 with 23, 03 with 12.
        due("all", x.folds(0), 7);
        due("best", x.folds(1), 2);
        x.set(1, -1);
        due("all", x.folds(0), 7);
        due("best", x.folds(1), 1);
        x.set(1, 0);
        x.score(0, 1, 0);
        due("all are best", x.folds(1), 7);
        x.score(0, 1, 1);
        due("the bare one", x.folds(1), 1);
        x = new ChordFolds();
        for (int i = 0; i < 24; i++) {
            x.letter(0);
        }
        x.set(0, 0);
        x.score(0, 0, 0);
        due("all of 24 points", x.folds(0), 3192727797L);
        due("all of 24 points", x.folds(1), 3192727797L);
        x.score(0, 0, -1);
        due("as many chords as can be", x.folds(1), 208012L);
    }

    private static void fold() {
        promise = 22;
        ChordFolds x = fourLetters(-2);
        due("fold", x.fold(), -4);
        mates(x, 1, 0, 3, 2);
        x.set(1, -1);
        due("fold", x.fold(), -5);
        mates(x, 3, 2, 1, 0);
        x.set(1, 0);
        x.score(0, 1, 0);
        due("without chord goes ahead", x.fold(), 0);
        mates(x, -1, -1, -1, -1);
        x = new ChordFolds();
        letters(x, 0, 1, 2, 1, 2);
        x.set(0, 0);
        x.score(0, 1, -2);
        due("lesser partner goes ahead", x.fold(), -2);
        mates(x, 1, 0, -1, -1, -1);
        x.score(0, 2, -2);
        x.score(0, 1, 21);
        due("lesser partner goes ahead", x.fold(), -2);
        mates(x, 2, -1, 0, -1, -1);
        x.wipe();
        due("no strand", x.fold(), 0);
        mates(x);
        // Inside a chord, only the chord right inside it earns the bonus.
        letters(x, 0, 1, 1, 0);
        x.score(0, 0, 0);
        x.score(1, 1, 1);
        x.set(1, -3);
        due("fold", x.fold(), -2);
        mates(x, 3, 2, 1, 0);
    }

    private static void longFold() {
        promise = 22;
        ChordFolds x = new ChordFolds();
        for (int i = 0; i < 24; i++) {
            x.letter(0);
        }
        x.set(0, 0);
        x.score(0, 0, -1);
        due("24 letters", x.fold(), -12);
        due("judge", x.judge(), -12);
        for (int a = 0; a < 24; a++) {
            due("neighbours", x.at(a), a % 2 == 0 ? a + 1 : a - 1);
        }
        x.set(1, -20);
        due("24 letters with bonus", x.fold(), -232);
        due("judge", x.judge(), -232);
        for (int a = 0; a < 24; a++) {
            due("nested", x.at(a), 23 - a);
        }
        x.set(1, 20);
        x.score(0, 0, 1);
        due("24 letters without chords", x.fold(), 0);
        due("judge", x.judge(), 0);
        due("bare", x.number(0), 0);
    }

    private static void judge() {
        promise = 23;
        ChordFolds x = fourLetters(-2);
        due("other length", x.judge(), LEAST);
        x.points(4);
        due("no chords", x.judge(), 0);
        x.join(0, 3);
        due("one chord", x.judge(), -2);
        x.join(2, 1);
        x.set(1, 5);
        due("two nested with bonus", x.judge(), 1);
        x.set(0, 1);
        due("within the gap", x.judge(), LEAST);
        x.set(0, 0);
        x.score(1, 0, 21);
        due("barred", x.judge(), LEAST);
        x = new ChordFolds();
        letters(x, 0, 0, 0, 0);
        x.set(0, 0);
        x.score(0, 0, -1);
        x.points(4);
        x.join(0, 2);
        x.join(1, 3);
        due("crossing", x.judge(), LEAST);
        x.part(1);
        due("not crossing", x.judge(), -1);
        x.points(5);
        due("longer", x.judge(), LEAST);
        x.points(3);
        due("shorter", x.judge(), LEAST);
        x.wipe();
        x.points(0);
        due("nothing", x.judge(), 0);
    }

    private static void count() {
        promise = 24;
        ChordFolds x = drawn(11);
        letters(x, 1, 2, 3);
        x.sign(1);
        x.sign(1);
        x.sign(2);
        x.sign(1);
        x.sign(1);
        due("points", x.count(0), 11);
        due("letters", x.count(1), 3);
        due("signs", x.count(2), 5);
        due("open", x.count(3), 3);
        due("count(4)", x.count(4), -2);
        due("count(-1)", x.count(-1), -2);
        due("count(max)", x.count(Integer.MAX_VALUE), -2);
        due("count(min)", x.count(Integer.MIN_VALUE), -2);
    }

    public static void main(String[] args) {
        newObject();
        points();
        join();
        part();
        at();
        number();
        height();
        shape();
        mirror();
        many();
        row();
        place();
        worth();
        sign();
        draw();
        letter();
        wipe();
        score();
        set();
        best();
        folds();
        fold();
        longFold();
        judge();
        count();
        System.out.println(wrong == 0 ? "all answers are as due" : wrong + " answers are not as due");
        if (wrong != 0) {
            System.exit(1);
        }
    }
}
