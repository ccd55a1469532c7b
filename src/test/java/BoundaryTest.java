import java.util.ArrayList;
import java.util.List;

/**
 * The edges that the document names, sentence by sentence: the last value that is taken and the first
 * that is refused on either side, the empty and the full case, and that a refused call changes nothing.
 */
public final class BoundaryTest {
    private static final int MAX = Integer.MAX_VALUE;
    private static final int MIN = Integer.MIN_VALUE;
    private static final int NONE = -1;
    private static final int BAD = -2;
    private static final int NOT = -3;
    private static final int FULL = -4;
    private static int wrong = 0;
    private static int sentences = 0;
    private static String sentence = "";

    private interface Call {
        long on(ChordFolds x);
    }

    private static void says(String text) {
        sentence = text;
        sentences++;
    }

    private static void due(String call, long got, long want) {
        if (got != want) {
            wrong++;
            System.out.println("\"" + sentence + "\": " + call + " answered " + got + ", due is " + want);
        }
    }

    // ---- objects to begin with

    private static ChordFolds drawn(int l, int... ends) {
        ChordFolds x = new ChordFolds();
        due("points(" + l + ")", x.points(l), 1);
        for (int i = 0; i + 1 < ends.length; i += 2) {
            due("join(" + ends[i] + ", " + ends[i + 1] + ")", x.join(ends[i], ends[i + 1]), i / 2 + 1);
        }
        return x;
    }

    /** Twelve chords: of neighbours, each inside the one before, or all crossing. */
    private static ChordFolds neighbours() {
        ChordFolds x = drawn(24);
        for (int a = 0; a < 24; a += 2) {
            x.join(a, a + 1);
        }
        return x;
    }

    private static ChordFolds nested() {
        ChordFolds x = drawn(24);
        for (int a = 0; a < 12; a++) {
            x.join(a, 23 - a);
        }
        return x;
    }

    private static ChordFolds tangled() {
        ChordFolds x = drawn(24);
        for (int a = 0; a < 12; a++) {
            x.join(a, a + 12);
        }
        return x;
    }

    /** A strand of so many letters 0 that may be joined to each other. */
    private static ChordFolds zeros(int length, int score, int gap, int bonus) {
        ChordFolds x = new ChordFolds();
        for (int i = 1; i <= length; i++) {
            due("letter(0)", x.letter(0), i);
        }
        due("score(0, 0, " + score + ")", x.score(0, 0, score), 21);
        due("set(0, " + gap + ")", x.set(0, gap), 3);
        due("set(1, " + bonus + ")", x.set(1, bonus), 0);
        return x;
    }

    private static void mates(ChordFolds x, int... want) {
        due("count(0)", x.count(0), want.length);
        for (int i = 0; i < want.length; i++) {
            due("at(" + i + ")", x.at(i), want[i]);
        }
    }

    private static void numbers(ChordFolds x, int... want) {
        for (int k = 0; k < want.length; k++) {
            due("number(" + k + ")", x.number(k), want[k]);
        }
    }

    // ---- states in which a refused call must change nothing

    private static final int FRESH = 0;
    private static final int BARE = 1;
    private static final int MIDDLE = 2;
    private static final int FULLEST = 3;
    private static final int STUCK = 4;
    private static final int STATES = 5;

    private static ChordFolds inState(int state) {
        ChordFolds x = new ChordFolds();
        if (state == BARE) {
            x.points(0);
        } else if (state == MIDDLE) {
            makeMiddle(x);
        } else if (state == FULLEST) {
            makeFullest(x);
        } else if (state == STUCK) {
            x.points(23);
            x.join(0, 22);
            x.letter(3);
            for (int i = 0; i < 24; i++) {
                x.sign(1);
            }
        }
        return x;
    }

    private static void makeMiddle(ChordFolds x) {
        x.points(5);
        x.join(4, 1);
        for (int v : new int[] {0, 2, 1, 1, 0}) {
            x.letter(v);
        }
        for (int v : new int[] {1, 1, 1, 3, 1}) {
            x.sign(v);
        }
        x.score(0, 1, -20);
        x.score(2, 2, 20);
        x.score(2, 0, 0);
        x.set(0, 0);
        x.set(1, -20);
    }

    private static void makeFullest(ChordFolds x) {
        x.row(12, 158117071612L);
        for (int i = 0; i < 24; i++) {
            x.letter(i % 4);
        }
        for (int i = 0; i < 12; i++) {
            x.sign(1);
        }
        for (int v = 13; v >= 2; v--) {
            x.sign(v);
        }
        for (int a = 0; a < 4; a++) {
            x.score(a, 3, a % 2 == 0 ? 20 : -20);
        }
        x.set(0, 8);
        x.set(1, 20);
    }

    /** All that can be learned of an object; it is of no use behind this. */
    private static List<Long> allOf(ChordFolds x) {
        List<Long> all = new ArrayList<>();
        for (int what = 0; what < 4; what++) {
            all.add((long) x.count(what));
        }
        addMates(x, all);
        all.add((long) x.judge());
        all.add((long) x.best());
        all.add(x.folds(0));
        all.add(x.folds(1));
        addScores(x, all);
        all.add((long) x.set(0, 0));
        all.add((long) x.set(1, 0));
        addLetters(x, all);
        for (int i = 0; i < 24 && x.count(3) > 0; i++) {
            all.add((long) x.sign(2));
        }
        all.add((long) x.draw());
        addMates(x, all);
        return all;
    }

    private static void addMates(ChordFolds x, List<Long> all) {
        for (int a = 0; a < x.count(0); a++) {
            all.add((long) x.at(a));
        }
    }

    /** Gives each pair of letters a score of its own, by which the letters are told apart next. */
    private static void addScores(ChordFolds x, List<Long> all) {
        for (int a = 0; a < 4; a++) {
            for (int b = a; b < 4; b++) {
                all.add((long) x.score(a, b, 4 * a + b));
                all.add((long) x.score(b, a, 4 * a + b));
            }
        }
    }

    private static void addLetters(ChordFolds x, List<Long> all) {
        all.add((long) x.letter(0));
        int length = x.count(1);
        x.points(length);
        for (int i = 1; i < length; i++) {
            x.join(0, i);
            all.add((long) x.judge());
            x.part(0);
        }
    }

    private static void refusedIn(int state, String call, long want, Call c) {
        ChordFolds x = inState(state);
        due(call + " in state " + state, c.on(x), want);
        List<Long> left = allOf(x);
        List<Long> twin = allOf(inState(state));
        if (!left.equals(twin)) {
            wrong++;
            System.out.println("\"" + sentence + "\": " + call + " in state " + state + " left " + left
                + ", due is " + twin);
        }
    }

    private static void refused(String call, long want, Call c) {
        for (int state = 0; state < STATES; state++) {
            refusedIn(state, call, want, c);
        }
    }

    // ---- the states themselves and the last call

    /** If the states were not as full or as empty as they are meant, the refusals would tell less. */
    private static void statesAreAsMeant() {
        says("the states of this test");
        int[][] counts = {{8, 0, 0, 0}, {0, 0, 0, 0}, {5, 5, 5, 3}, {24, 24, 24, 0}, {23, 1, 24, 24}};
        int[] chords = {0, 0, 1, 12, 1};
        for (int state = 0; state < STATES; state++) {
            ChordFolds x = inState(state);
            for (int what = 0; what < 4; what++) {
                due("count(" + what + ") in state " + state, x.count(what), counts[state][what]);
            }
            due("number(0) in state " + state, x.number(0), chords[state]);
        }
    }

    private static void theLastCall() {
        says("An object is used for at most 512 calls after it has been made");
        ChordFolds x = new ChordFolds();
        for (int i = 1; i <= 24; i++) {
            due("letter(0)", x.letter(0), i);
        }
        due("set(0, 0)", x.set(0, 0), 3);
        due("score(0, 0, -20)", x.score(0, 0, -20), 21);
        for (int call = 27; call < 511; call += 4) {
            due("fold()", x.fold(), -240);
            due("folds(1)", x.folds(1), 208012);
            due("row(12, " + call + ")", x.row(12, call), 1);
            due("place()", x.place(), call);
        }
        due("the 511th call", x.fold(), -240);
        due("the 512th call", x.judge(), -240);
    }

    // ---- terms and promises 1 to 9: the drawing

    private static void newObject() {
        says("Promise 1: Eight POINTS, no CHORDS, no STRAND");
        ChordFolds x = new ChordFolds();
        mates(x, NONE, NONE, NONE, NONE, NONE, NONE, NONE, NONE);
        due("at(8)", x.at(8), BAD);
        due("number(0)", x.number(0), 0);
        due("wipe()", x.wipe(), 0);
        says("a row of WORTH at hand (empty at first)");
        x = new ChordFolds();
        due("count(2)", x.count(2), 0);
        due("count(3)", x.count(3), 0);
        due("sign(2)", x.sign(2), BAD);
        due("sign(1)", x.sign(1), 1);
        says("BARRED (all at first)");
        for (int a = 0; a < 4; a++) {
            for (int b = 0; b < 4; b++) {
                due("score(" + a + ", " + b + ", 21)", new ChordFolds().score(a, b, 21), 21);
                due("score(" + a + ", " + b + ", 0)", new ChordFolds().score(a, b, 0), 21);
            }
        }
        says("GAP 3 at first; BONUS 0 at first");
        due("set(0, 0)", new ChordFolds().set(0, 0), 3);
        due("set(1, 1)", new ChordFolds().set(1, 1), 0);
        gapAndBonusAtFirstAtWork();
    }

    private static void gapAndBonusAtFirstAtWork() {
        for (int length = 4; length <= 5; length++) {
            ChordFolds x = new ChordFolds();
            for (int i = 0; i < length; i++) {
                x.letter(0);
            }
            x.score(0, 0, -1);
            due("best() of " + length + " letters", x.best(), length == 5 ? -1 : 0);
        }
        ChordFolds x = new ChordFolds();
        for (int i = 0; i < 7; i++) {
            x.letter(0);
        }
        x.score(0, 0, -1);
        due("best() of a stack", x.best(), -2);
    }

    private static void points() {
        says("L 0 .. 24; Promise 2: L POINTS without CHORDS: 1. BAD");
        for (int l = 0; l <= 24; l++) {
            ChordFolds x = inState(l % STATES);
            due("points(" + l + ")", x.points(l), 1);
            due("count(0)", x.count(0), l);
            due("number(0)", x.number(0), 0);
            due("at(-1)", x.at(-1), BAD);
            due("at(" + l + ")", x.at(l), BAD);
            for (int a = 0; a < l; a++) {
                due("at(" + a + ")", x.at(a), NONE);
            }
        }
        refused("points(-1)", BAD, x -> x.points(-1));
        refused("points(25)", BAD, x -> x.points(25));
        refused("points(max)", BAD, x -> x.points(MAX));
        refused("points(min)", BAD, x -> x.points(MIN));
        says("Promise 2: without CHORDS, also where POINTS were gone and come again");
        ChordFolds x = nested();
        x.points(0);
        x.points(24);
        due("number(0)", x.number(0), 0);
        for (int a = 0; a < 24; a++) {
            due("at(" + a + ")", x.at(a), NONE);
        }
    }

    private static void join() {
        says("Promise 3: A CHORD of two POINTS: how many CHORDS");
        ChordFolds x = new ChordFolds();
        due("join(0, 7)", x.join(0, 7), 1);
        due("join(6, 1)", x.join(6, 1), 2);
        mates(x, 7, 6, NONE, NONE, NONE, NONE, 1, 0);
        x = drawn(24);
        due("join(23, 0)", x.join(23, 0), 1);
        for (int a = 1; a < 12; a++) {
            due("join(" + a + ", " + (23 - a) + ")", x.join(a, 23 - a), a + 1);
        }
        due("at(0)", x.at(0), 23);
        due("at(23)", x.at(23), 0);
        says("Promise 3: BAD: no such POINT");
        refused("join(-1, 0)", BAD, y -> y.join(-1, 0));
        refused("join(0, -1)", BAD, y -> y.join(0, -1));
        refused("join(0, L)", BAD, y -> y.join(0, y.count(0)));
        refused("join(L, 0)", BAD, y -> y.join(y.count(0), 0));
        refused("join(L - 1, L)", BAD, y -> y.join(y.count(0) - 1, y.count(0)));
        refused("join(min, max)", BAD, y -> y.join(MIN, MAX));
        refused("join(max, 2)", BAD, y -> y.join(MAX, 2));
        says("Promise 3: BAD: also a POINT and itself");
        refused("join(0, 0)", BAD, y -> y.join(0, 0));
        refused("join(L - 1, L - 1)", BAD, y -> y.join(y.count(0) - 1, y.count(0) - 1));
        refused("join(-1, -1)", BAD, y -> y.join(-1, -1));
        joinOfJoined();
    }

    private static void joinOfJoined() {
        says("no POINT by two; Promise 3: NOT");
        refusedIn(MIDDLE, "join(1, 0)", NOT, x -> x.join(1, 0));
        refusedIn(MIDDLE, "join(0, 4)", NOT, x -> x.join(0, 4));
        refusedIn(MIDDLE, "join(4, 3)", NOT, x -> x.join(4, 3));
        refusedIn(MIDDLE, "join(1, 4)", NOT, x -> x.join(1, 4));
        refusedIn(MIDDLE, "join(4, 1)", NOT, x -> x.join(4, 1));
        refusedIn(FULLEST, "join(0, 23)", NOT, x -> x.join(0, 23));
        refusedIn(FULLEST, "join(0, 12)", NOT, x -> x.join(0, 12));
        says("the first that fits: BAD ahead of NOT");
        refusedIn(MIDDLE, "join(1, 1)", BAD, x -> x.join(1, 1));
        refusedIn(MIDDLE, "join(1, 5)", BAD, x -> x.join(1, 5));
        refusedIn(MIDDLE, "join(-1, 4)", BAD, x -> x.join(-1, 4));
        refusedIn(FULLEST, "join(23, 24)", BAD, x -> x.join(23, 24));
    }

    private static void part() {
        says("Promise 4: The CHORD of a POINT goes: which POINT it was joined to");
        ChordFolds x = nested();
        due("part(0)", x.part(0), 23);
        due("part(12)", x.part(12), 11);
        due("number(0)", x.number(0), 10);
        due("at(23)", x.at(23), NONE);
        due("at(11)", x.at(11), NONE);
        due("part(22)", x.part(22), 1);
        says("Promise 4: BAD");
        refused("part(-1)", BAD, y -> y.part(-1));
        refused("part(L)", BAD, y -> y.part(y.count(0)));
        refused("part(max)", BAD, y -> y.part(MAX));
        refused("part(min)", BAD, y -> y.part(MIN));
        says("Promise 4: NOT");
        refusedIn(FRESH, "part(0)", NOT, y -> y.part(0));
        refusedIn(FRESH, "part(7)", NOT, y -> y.part(7));
        refusedIn(MIDDLE, "part(0)", NOT, y -> y.part(0));
        refusedIn(MIDDLE, "part(3)", NOT, y -> y.part(3));
        due("part(23) again", x.part(23), NOT);
        due("part(0) again", x.part(0), NOT);
    }

    private static void at() {
        says("Promise 5: The partner of a POINT; NONE. BAD");
        mates(drawn(1), NONE);
        mates(drawn(2, 1, 0), 1, 0);
        mates(drawn(3, 0, 2), 2, NONE, 0);
        refused("at(-1)", BAD, x -> x.at(-1));
        refused("at(L)", BAD, x -> x.at(x.count(0)));
        refused("at(24)", BAD, x -> x.at(24));
        refused("at(max)", BAD, x -> x.at(MAX));
        refused("at(min)", BAD, x -> x.at(MIN));
    }

    private static void numbersAtEdges() {
        says("Promise 6: NUMBER k of THE DRAWING. BAD");
        refused("number(-1)", BAD, x -> x.number(-1));
        refused("number(9)", BAD, x -> x.number(9));
        refused("number(max)", BAD, x -> x.number(MAX));
        refused("number(min)", BAD, x -> x.number(MIN));
        says("NUMBERS of a DRAWING without CHORDS");
        for (int l : new int[] {0, 1, 2, 8, 23, 24}) {
            numbers(drawn(l), 0, 0, 0, 0, 0, 0, 0, 0, 0, BAD);
        }
        says("NUMBERS of a DRAWING with one CHORD");
        numbers(drawn(2, 0, 1), 1, 0, 0, 0, 1, 1, 1, 1, 1);
        numbers(drawn(24, 0, 1), 1, 0, 0, 0, 1, 1, 1, 1, 1);
        numbers(drawn(24, 22, 23), 1, 0, 0, 0, 1, 1, 1, 1, 1);
        numbers(drawn(24, 0, 23), 1, 0, 0, 0, 1, 1, 1, 23, 1);
        says("NUMBERS of a FULL DRAWING of twelve CHORDS");
        numbers(neighbours(), 12, 0, 0, 0, 12, 1, 1, 1, 12);
        numbers(nested(), 12, 0, 0, 66, 1, 1, 12, 1, 1);
        numbers(tangled(), 12, 6, 66, 0, 1, 12, 1, 12, 12);
    }

    private static void handles() {
        says("1 HANDLES: r is 1 without CHORDS");
        due("number(1)", drawn(0).number(1), 0);
        due("number(1)", drawn(24).number(1), 0);
        says("1 HANDLES: joined POINTS alone are numbered");
        due("one crossing, free POINTS all about", drawn(11, 1, 5, 3, 8).number(1), 1);
        due("no crossing, free POINTS all about", drawn(11, 1, 8, 3, 5).number(1), 0);
        says("1 HANDLES: behind the last one 0");
        due("last POINT joined to its neighbour", drawn(6, 0, 2, 1, 3, 4, 5).number(1), 1);
        due("last POINT joined to the first", drawn(6, 0, 5, 1, 3, 2, 4).number(1), 1);
        due("all in one round", drawn(4, 0, 2, 1, 3).number(1), 1);
        due("two times two that cross", drawn(8, 0, 2, 1, 3, 4, 6, 5, 7).number(1), 2);
        due("free POINT behind the last joined one", drawn(5, 0, 2, 1, 3).number(1), 1);
        due("free POINT ahead of the first joined one", drawn(5, 1, 3, 2, 4).number(1), 1);
        ChordFolds again = neighbours();
        due("asked once", again.number(1), 0);
        due("asked again", again.number(1), 0);
        says("1 HANDLES of CHORDS that all cross: (1 + c - r) / 2 with r 1 or 2");
        for (int c = 0; c <= 12; c++) {
            ChordFolds x = drawn(2 * c);
            for (int a = 0; a < c; a++) {
                x.join(a, a + c);
            }
            due("number(1) of " + c, x.number(1), c / 2);
        }
    }

    private static void crossingsAndNestings() {
        says("2 CROSSINGS: pairs with a, a', b, b' in this order; 3 NESTINGS: pairs with a, a', b', b");
        numbers(drawn(4, 0, 1, 2, 3), 2, 0, 0, 0, 2, 1, 1, 1, 2);
        numbers(drawn(4, 0, 2, 1, 3), 2, 1, 1, 0, 1, 2, 1, 2, 2);
        numbers(drawn(4, 0, 3, 1, 2), 2, 0, 0, 1, 1, 1, 2, 1, 1);
        due("CROSSINGS with the last POINT", drawn(24, 0, 22, 21, 23).number(2), 1);
        due("NESTINGS with the first and the last POINT", drawn(24, 23, 0, 22, 1).number(3), 1);
    }

    private static void parts() {
        says("4 PARTS: a POINT that ends the last open CHORD");
        due("ends at the last POINT", drawn(24, 0, 23).number(4), 1);
        due("ends at POINT 1", drawn(24, 0, 1).number(4), 1);
        due("no CHORD open, none was", drawn(6, 2, 3).number(4), 1);
        due("one is open still", drawn(4, 0, 2, 1, 3).number(4), 1);
        due("side by side with a free POINT between", drawn(5, 0, 1, 3, 4).number(4), 2);
        due("side by side inside another", drawn(6, 0, 5, 1, 2, 3, 4).number(4), 1);
    }

    private static void tangleAndNest() {
        says("5 TANGLE: the most CHORDS of which each two cross; 6 NEST: of which each two nest");
        for (int c = 0; c <= 12; c++) {
            ChordFolds x = drawn(24);
            ChordFolds y = drawn(24);
            for (int a = 0; a < c; a++) {
                x.join(a, a + 12);
                y.join(23 - a, a);
            }
            due("TANGLE of " + c + " that cross", x.number(5), c);
            due("NEST of " + c + " that cross", x.number(6), Math.min(c, 1));
            due("TANGLE of " + c + " that nest", y.number(5), Math.min(c, 1));
            due("NEST of " + c + " that nest", y.number(6), c);
        }
        due("TANGLE of a chain", drawn(8, 0, 2, 1, 4, 3, 6, 5, 7).number(5), 2);
        due("NEST of two beside each other in one", drawn(6, 0, 5, 1, 2, 3, 4).number(6), 2);
    }

    private static void shortestAndStacks() {
        says("7 SHORTEST: the least b - a (0 without CHORDS)");
        for (int b = 1; b < 24; b++) {
            due("(0, " + b + ")", drawn(24, 0, b).number(7), b);
            due("(" + (23 - b) + ", 23)", drawn(24, 23 - b, 23).number(7), b);
        }
        ChordFolds x = drawn(24, 0, 23, 1, 2);
        due("the least of two", x.number(7), 1);
        x.part(1);
        due("of the other one", x.number(7), 23);
        x.part(0);
        due("of none", x.number(7), 0);
        says("8 STACKS: CHORDS (a, b) without a CHORD (a - 1, b + 1)");
        due("from POINT 0, b + 1 is free", drawn(8, 0, 3).number(8), 1);
        due("to the last POINT, a - 1 is free", drawn(8, 3, 7).number(8), 1);
        due("a - 1 and b + 1 are free", drawn(8, 2, 5).number(8), 1);
        due("a - 1 and b + 1 are of two others", drawn(8, 2, 5, 1, 7, 6, 0).number(8), 3);
        due("inside the first and the last POINT", drawn(24, 0, 23, 1, 22).number(8), 1);
        due("one POINT further inside", drawn(24, 0, 23, 2, 21).number(8), 2);
        due("one end alone", drawn(24, 0, 23, 1, 21).number(8), 2);
    }

    private static void height() {
        says("Promise 7: HEIGHT behind a POINT. BAD");
        ChordFolds x = nested();
        for (int a = 0; a < 24; a++) {
            due("height(" + a + ")", x.height(a), a < 12 ? a + 1 : 23 - a);
        }
        x = drawn(3);
        due("height(0)", x.height(0), 0);
        due("height(2)", x.height(2), 0);
        x = drawn(3, 0, 2);
        due("height(0)", x.height(0), 1);
        due("height(1)", x.height(1), 1);
        due("height(2)", x.height(2), 0);
        refused("height(-1)", BAD, y -> y.height(-1));
        refused("height(L)", BAD, y -> y.height(y.count(0)));
        refused("height(max)", BAD, y -> y.height(MAX));
        refused("height(min)", BAD, y -> y.height(MIN));
    }

    private static void shape() {
        says("SHAPE: POINTS without CHORD go");
        for (int l : new int[] {0, 1, 24}) {
            ChordFolds x = drawn(l);
            due("shape() of " + l + " POINTS", x.shape(), 0);
            mates(x);
        }
        ChordFolds first = drawn(24, 0, 23);
        due("shape() with the first and the last POINT", first.shape(), 2);
        mates(first, 1, 0);
        says("SHAPE: of CHORDS (a, b) and (a + 1, b - 1) the inner one goes");
        ChordFolds x = drawn(2, 0, 1);
        due("a CHORD has none inside itself", x.shape(), 2);
        mates(x, 1, 0);
        x = neighbours();
        due("side by side, all stay", x.shape(), 24);
        due("number(4)", x.number(4), 12);
        x = tangled();
        due("all cross, all stay", x.shape(), 24);
        due("number(2)", x.number(2), 66);
        says("SHAPE: again and again, until nothing goes; L becomes what is left");
        x = nested();
        due("twelve go down to one", x.shape(), 2);
        mates(x, 1, 0);
        due("at(2)", x.at(2), BAD);
        x = drawn(24, 0, 23, 2, 21, 4, 19, 6, 17);
        due("nested with free POINTS between", x.shape(), 2);
        x = drawn(8, 0, 7, 1, 3, 2, 4, 5, 6);
        due("inside are several", x.shape(), 8);
        mates(x, 7, 3, 4, 1, 2, 6, 5, 0);
        x.points(24);
        due("POINTS come again without CHORDS", x.number(0), 0);
    }

    private static void mirror() {
        says("Promise 9: POINT i comes where L - 1 - i was: 1");
        ChordFolds x = drawn(0);
        due("mirror() of no POINTS", x.mirror(), 1);
        mates(x);
        x = drawn(1);
        due("mirror() of one POINT", x.mirror(), 1);
        mates(x, NONE);
        x = drawn(3, 0, 1);
        due("mirror()", x.mirror(), 1);
        mates(x, NONE, 2, 1);
        x = drawn(24, 0, 1, 2, 22);
        due("mirror() of 24 POINTS", x.mirror(), 1);
        due("at(23)", x.at(23), 22);
        due("at(22)", x.at(22), 23);
        due("at(21)", x.at(21), 1);
        due("at(1)", x.at(1), 21);
        due("at(0)", x.at(0), NONE);
        due("number(0)", x.number(0), 2);
    }

    // ---- terms and promises 10 to 15: full drawings

    private static void many() {
        says("Promise 10: how many of n CHORDS have v (any int); n 0 .. 12");
        long drawings = 1;
        for (int n = 0; n <= 12; n++) {
            drawings *= n == 0 ? 1 : 2 * n - 1;
            for (int way = 0; way < 3; way++) {
                manyOf(way, n, drawings);
            }
        }
        says("Promise 10: -2: BAD");
        for (int way = 0; way < 3; way++) {
            int w = way;
            refused("many(" + w + ", -1, 0)", BAD, x -> x.many(w, -1, 0));
            refused("many(" + w + ", 13, 0)", BAD, x -> x.many(w, 13, 0));
            refused("many(" + w + ", max, 0)", BAD, x -> x.many(w, MAX, 0));
            refused("many(" + w + ", min, -1)", BAD, x -> x.many(w, MIN, -1));
        }
        refused("many(-1, 0, 0)", BAD, x -> x.many(-1, 0, 0));
        refused("many(3, 12, 0)", BAD, x -> x.many(3, 12, 0));
        refused("many(max, 0, 0)", BAD, x -> x.many(MAX, 0, 0));
        refused("many(min, 0, 0)", BAD, x -> x.many(MIN, 0, 0));
    }

    private static void manyOf(int way, int n, long drawings) {
        ChordFolds x = new ChordFolds();
        int most = way == 0 ? n / 2 : n * (n - 1) / 2;
        String call = "many(" + way + ", " + n + ", ";
        long sum = 0;
        for (int v = 0; v <= most; v++) {
            long some = x.many(way, n, v);
            due(call + v + ") is above 0", some > 0 ? 1 : 0, 1);
            sum += some;
        }
        due(call + "any)", sum, drawings);
        for (int v : new int[] {-1, -2, MIN, MIN + 1, most + 1, 7 + most, 67, MAX - 1, MAX}) {
            due(call + v + ")", x.many(way, n, v), 0);
        }
        if (way > 0) {
            due(call + most + ")", x.many(way, n, most), 1);
        }
        due("count(0)", x.count(0), 8);
    }

    private static void row() {
        says("Promise 11: n 0 .. 12, the FULL one that just k others are ahead of: 1");
        long drawings = 1;
        for (int n = 0; n <= 12; n++) {
            drawings *= n == 0 ? 1 : 2 * n - 1;
            ChordFolds x = inState(n % STATES);
            due("row(" + n + ", 0)", x.row(n, 0), 1);
            due("count(0)", x.count(0), 2 * n);
            for (int a = 0; a < 2 * n; a++) {
                due("first: at(" + a + ")", x.at(a), a % 2 == 0 ? a + 1 : a - 1);
            }
            due("row(" + n + ", " + (drawings - 1) + ")", x.row(n, drawings - 1), 1);
            for (int a = 0; a < 2 * n; a++) {
                due("last: at(" + a + ")", x.at(a), 2 * n - 1 - a);
            }
        }
        rowBeyond();
        says("Promise 11: BAD");
        refused("row(-1, 0)", BAD, x -> x.row(-1, 0));
        refused("row(13, 0)", BAD, x -> x.row(13, 0));
        refused("row(max, 0)", BAD, x -> x.row(MAX, 0));
        refused("row(min, 0)", BAD, x -> x.row(MIN, 0));
        says("Promise 11: BAD: k taken as a long");
        refused("row(2, 2^32)", BAD, x -> x.row(2, 1L << 32));
        refused("row(12, 2^62)", BAD, x -> x.row(12, 1L << 62));
        refused("row(12, -2^32)", BAD, x -> x.row(12, -(1L << 32)));
    }

    private static void rowBeyond() {
        says("Promise 11: BAD: also there are not so many, k below 0");
        long drawings = 1;
        for (int n = 0; n <= 12; n++) {
            drawings *= n == 0 ? 1 : 2 * n - 1;
            int m = n;
            for (long k : new long[] {drawings, -1, Long.MAX_VALUE, Long.MIN_VALUE}) {
                refused("row(" + m + ", " + k + ")", BAD, x -> x.row(m, k));
            }
        }
    }

    private static void place() {
        says("Promise 12: How many FULL DRAWINGS of as many CHORDS are ahead of THE DRAWING");
        long drawings = 1;
        for (int n = 0; n <= 12; n++) {
            drawings *= n == 0 ? 1 : 2 * n - 1;
            ChordFolds x = new ChordFolds();
            for (long k : new long[] {0, drawings - 1, drawings / 2, drawings / 3}) {
                due("row(" + n + ", " + k + ")", x.row(n, k), 1);
                due("place()", x.place(), k);
            }
        }
        due("no POINTS are a FULL DRAWING", drawn(0).place(), 0);
        due("the first", neighbours().place(), 0);
        due("the last", nested().place(), 316234143224L);
        says("Promise 12: -3: NOT: it is not FULL");
        for (int state : new int[] {FRESH, MIDDLE, STUCK}) {
            refusedIn(state, "place()", NOT, ChordFolds::place);
        }
        due("one POINT", drawn(1).place(), NOT);
        due("two POINTS without CHORD", drawn(2).place(), NOT);
        due("the last POINT free", drawn(3, 0, 1).place(), NOT);
        due("the first POINT free", drawn(3, 1, 2).place(), NOT);
        ChordFolds x = nested();
        x.part(11);
        due("eleven CHORDS of 24 POINTS", x.place(), NOT);
    }

    private static void worth() {
        says("Promise 13: Sign i of WORTH of THE DRAWING");
        ChordFolds x = tangled();
        ChordFolds y = nested();
        for (int i = 0; i < 24; i++) {
            due("all cross: worth(" + i + ")", x.worth(i), i < 12 ? 1 : 25 - i);
            due("all nest: worth(" + i + ")", y.worth(i), i < 12 ? 1 : 2);
        }
        x = drawn(2, 0, 1);
        due("worth(0)", x.worth(0), 1);
        due("worth(1)", x.worth(1), 2);
        says("Promise 13: BAD: no such POINT");
        due("worth(2)", x.worth(2), BAD);
        due("no POINTS are FULL: worth(-1)", drawn(0).worth(-1), BAD);
        for (int state : new int[] {BARE, FULLEST}) {
            refusedIn(state, "worth(-1)", BAD, z -> z.worth(-1));
            refusedIn(state, "worth(L)", BAD, z -> z.worth(z.count(0)));
            refusedIn(state, "worth(max)", BAD, z -> z.worth(MAX));
            refusedIn(state, "worth(min)", BAD, z -> z.worth(MIN));
        }
        says("Promise 13: NOT (ahead)");
        for (int state : new int[] {FRESH, MIDDLE, STUCK}) {
            refusedIn(state, "worth(0)", NOT, z -> z.worth(0));
            refusedIn(state, "worth(L - 1)", NOT, z -> z.worth(z.count(0) - 1));
            refusedIn(state, "worth(-1)", NOT, z -> z.worth(-1));
            refusedIn(state, "worth(L)", NOT, z -> z.worth(z.count(0)));
            refusedIn(state, "worth(max)", NOT, z -> z.worth(MAX));
            refusedIn(state, "worth(min)", NOT, z -> z.worth(MIN));
        }
    }

    private static ChordFolds withOpen(int open) {
        ChordFolds x = new ChordFolds();
        for (int i = 1; i <= open; i++) {
            due("sign(1)", x.sign(1), i);
        }
        return x;
    }

    private static void sign() {
        says("Promise 14: BAD: a sign that cannot come (2 and j with j CHORDS or less open)");
        for (int open = 0; open < 24; open++) {
            ChordFolds x = withOpen(open);
            due("sign(" + (open + 2) + "), " + open + " open", x.sign(open + 2), BAD);
            due("sign(" + (open + 3) + "), " + open + " open", x.sign(open + 3), BAD);
            due("count(2)", x.count(2), open);
            due("count(3)", x.count(3), open);
            if (open > 0) {
                due("sign(" + (open + 1) + "), " + open + " open", x.sign(open + 1), open + 1);
                due("count(3)", x.count(3), open - 1);
                due("sign(2), " + open + " open", withOpen(open).sign(2), open + 1);
            }
        }
        says("Promise 14: a sign more, 1 or 2 and more");
        for (int v : new int[] {0, -1, -2, MIN, MIN + 1, MIN + 2, MAX, MAX - 1}) {
            refused("sign(" + v + ")", BAD, x -> x.sign(v));
        }
        refusedIn(FRESH, "sign(2)", BAD, x -> x.sign(2));
        refusedIn(MIDDLE, "sign(5)", BAD, x -> x.sign(5));
        says("Promise 14: BAD: a 25th");
        due("a 24th that begins", withOpen(23).sign(1), 24);
        due("a 24th that ends the last begun", withOpen(23).sign(2), 24);
        due("a 24th that ends the first begun", withOpen(23).sign(24), 24);
        refusedIn(STUCK, "sign(1)", BAD, x -> x.sign(1));
        refusedIn(STUCK, "sign(2)", BAD, x -> x.sign(2));
        refusedIn(STUCK, "sign(25)", BAD, x -> x.sign(25));
        refusedIn(FULLEST, "sign(1)", BAD, x -> x.sign(1));
        refusedIn(FULLEST, "sign(2)", BAD, x -> x.sign(2));
    }

    private static void draw() {
        says("Promise 15: THE DRAWING becomes the FULL one of the row of WORTH at hand: how many CHORDS");
        ChordFolds x = new ChordFolds();
        due("draw() of no signs", x.draw(), 0);
        mates(x);
        due("place()", x.place(), 0);
        x = withOpen(1);
        due("sign(2)", x.sign(2), 2);
        due("draw() of two signs", x.draw(), 1);
        mates(x, 1, 0);
        x = inState(FULLEST);
        x.points(3);
        due("draw() of 24 signs", x.draw(), 12);
        due("count(0)", x.count(0), 24);
        due("number(2)", x.number(2), 66);
        says("Promise 15: the row of WORTH at hand, that is empty then");
        due("count(2)", x.count(2), 0);
        due("count(3)", x.count(3), 0);
        due("sign(2)", x.sign(2), BAD);
        due("sign(1)", x.sign(1), 1);
        due("sign(2)", x.sign(2), 2);
        due("draw()", x.draw(), 1);
        mates(x, 1, 0);
        due("draw() of no signs", x.draw(), 0);
        mates(x);
        secondFullRow();
        says("Promise 15: NOT: some CHORDS are open");
        refusedIn(MIDDLE, "draw()", NOT, ChordFolds::draw);
        refusedIn(STUCK, "draw()", NOT, ChordFolds::draw);
        x = withOpen(1);
        due("one open", x.draw(), NOT);
        due("count(0)", x.count(0), 8);
        due("count(2)", x.count(2), 1);
        due("sign(2)", x.sign(2), 2);
        due("none open", x.draw(), 1);
    }

    /** The second row begins CHORDS at signs at which the first row ended some. */
    private static void secondFullRow() {
        ChordFolds x = inState(FULLEST);
        due("draw() of 24 signs", x.draw(), 12);
        for (int i = 1; i <= 24; i++) {
            due("sign", x.sign(i % 2 == 1 ? 1 : 2), i);
        }
        due("draw() of 24 signs again", x.draw(), 12);
        due("place()", x.place(), 0);
    }

    // ---- terms and promises 16 to 24: strands

    private static void letter() {
        says("LETTERS 0 .. 3; Promise 16: A LETTER more of THE STRAND: how many. BAD");
        for (int v = 0; v <= 3; v++) {
            due("letter(" + v + ")", new ChordFolds().letter(v), 1);
        }
        for (int v : new int[] {-1, 4, MAX, MIN}) {
            refused("letter(" + v + ")", BAD, x -> x.letter(v));
        }
        lettersAtWork();
        says("24 at most; Promise 16: FULL");
        for (int v = 0; v <= 3; v++) {
            int w = v;
            refusedIn(FULLEST, "letter(" + w + ")", FULL, x -> x.letter(w));
        }
        says("the first that fits: BAD ahead of FULL");
        refusedIn(FULLEST, "letter(4)", BAD, x -> x.letter(4));
        refusedIn(FULLEST, "letter(-1)", BAD, x -> x.letter(-1));
        says("Promise 16: how many");
        ChordFolds x = zeros(23, 0, 0, 0);
        due("a 24th", x.letter(3), 24);
        due("a 25th", x.letter(3), FULL);
        due("wipe()", x.wipe(), 24);
        due("a first one again", x.letter(3), 1);
    }

    /** One pair of letters may be joined: only a strand of just these two has a FOLD with a CHORD. */
    private static void lettersAtWork() {
        for (int pair = 0; pair < 16; pair++) {
            for (int row = 0; row < 16; row++) {
                ChordFolds x = new ChordFolds();
                x.set(0, 0);
                x.score(pair / 4, pair % 4, -1);
                x.letter(row / 4);
                x.letter(row % 4);
                boolean same = row == pair || row / 4 == pair % 4 && row % 4 == pair / 4;
                due("best() of " + row / 4 + " " + row % 4, x.best(), same ? -1 : 0);
            }
        }
    }

    private static void wipe() {
        says("Promise 17: THE STRAND is empty: how many it had");
        ChordFolds x = new ChordFolds();
        due("wipe() of none", x.wipe(), 0);
        due("letter(2)", x.letter(2), 1);
        due("wipe() of one", x.wipe(), 1);
        due("wipe() again", x.wipe(), 0);
        x = inState(FULLEST);
        due("wipe() of 24", x.wipe(), 24);
        due("count(1)", x.count(1), 0);
        due("best()", x.best(), 0);
        due("folds(0)", x.folds(0), 1);
        due("SCORES stay", x.score(3, 3, 0), -20);
        due("GAP stays", x.set(0, 0), 8);
        due("BONUS stays", x.set(1, 0), 20);
        due("POINTS stay", x.count(0), 24);
        due("CHORDS stay", x.number(0), 12);
        due("signs stay", x.count(2), 24);
    }

    private static void score() {
        says("SCORES are -20 .. 20, the same either way, or BARRED; Promise 18: which it was (21 BARRED)");
        for (int a = 0; a < 4; a++) {
            for (int b = 0; b < 4; b++) {
                scoreOf(a, b);
            }
        }
        says("Promise 18: The least int: BAD");
        for (int v : new int[] {-21, 22, MAX, MIN}) {
            refused("score(0, 1, " + v + ")", MIN, x -> x.score(0, 1, v));
            refused("score(2, 2, " + v + ")", MIN, x -> x.score(2, 2, v));
        }
        for (int v : new int[] {-1, 4, MAX, MIN}) {
            refused("score(" + v + ", 0, 0)", MIN, x -> x.score(v, 0, 0));
            refused("score(3, " + v + ", 21)", MIN, x -> x.score(3, v, 21));
            refused("score(" + v + ", " + v + ", 1)", MIN, x -> x.score(v, v, 1));
        }
    }

    /** Takes each value that there is, and leaves the other pairs of letters as they were. */
    private static void scoreOf(int a, int b) {
        ChordFolds x = new ChordFolds();
        int was = 21;
        for (int v = -20; v <= 21; v++) {
            due("score(" + a + ", " + b + ", " + v + ")", x.score(a, b, v), was);
            was = v;
        }
        due("from 21 to -20", x.score(a, b, -20), 21);
        due("either way", x.score(b, a, 20), -20);
        due("either way", x.score(a, b, 0), 20);
        for (int c = 0; c < 4; c++) {
            for (int d = 0; d < 4; d++) {
                boolean same = c == a && d == b || c == b && d == a;
                due("score(" + c + ", " + d + ", ..)", x.score(c, d, same ? 0 : 21), same ? 0 : 21);
            }
        }
    }

    private static void set() {
        says("GAP 0 .. 8; Promise 19: GAP (way 0), BONUS (1): which it was");
        ChordFolds x = new ChordFolds();
        int was = 3;
        for (int v = 0; v <= 8; v++) {
            due("set(0, " + v + ")", x.set(0, v), was);
            was = v;
        }
        due("set(0, 0)", x.set(0, 0), 8);
        says("BONUS -20 .. 20; Promise 19: GAP (way 0), BONUS (1): which it was");
        was = 0;
        for (int v = -20; v <= 20; v++) {
            due("set(1, " + v + ")", x.set(1, v), was);
            was = v;
        }
        due("set(1, -20)", x.set(1, -20), 20);
        due("GAP stays", x.set(0, 8), 0);
        due("BONUS stays", x.set(1, 0), -20);
        says("Promise 19: The least int: BAD");
        for (int v : new int[] {-1, 9, MAX, MIN}) {
            refused("set(0, " + v + ")", MIN, y -> y.set(0, v));
        }
        for (int v : new int[] {-21, 21, MAX, MIN}) {
            refused("set(1, " + v + ")", MIN, y -> y.set(1, v));
        }
        for (int way : new int[] {-1, 2, MAX, MIN}) {
            refused("set(" + way + ", 0)", MIN, y -> y.set(way, 0));
        }
    }

    private static void gapAtWork() {
        says("GAP m: a CHORD (a, b) needs b - a above m");
        for (int gap = 0; gap <= 8; gap++) {
            for (int length = gap; length <= gap + 2; length++) {
                ChordFolds x = zeros(length, -20, gap, 0);
                boolean one = length == gap + 2;
                due("best(), GAP " + gap + ", " + length + " LETTERS", x.best(), one ? -20 : 0);
                due("folds(0)", x.folds(0), one ? 2 : 1);
                due("folds(1)", x.folds(1), 1);
                due("fold()", x.fold(), one ? -20 : 0);
                due("number(7)", x.number(7), one ? gap + 1 : 0);
            }
            ChordFolds x = zeros(24, -1, gap, 0);
            x.points(24);
            x.join(23, 23 - gap - 1);
            due("judge(), b - a is GAP and 1", x.judge(), -1);
            x.part(23);
            if (gap > 0) {
                x.join(23, 23 - gap);
                due("judge(), b - a is GAP", x.judge(), MIN);
            }
        }
    }

    private static void bonusAtWork() {
        says("BONUS for each CHORD (a, b) with a CHORD (a - 1, b + 1)");
        ChordFolds x = zeros(6, 1, 0, -20);
        x.points(6);
        x.join(0, 3);
        due("judge(), from POINT 0, b + 1 is free", x.judge(), 1);
        x.part(0);
        x.join(2, 5);
        due("judge(), to the last POINT, a - 1 is free", x.judge(), 1);
        x.join(3, 4);
        due("judge(), one inside", x.judge(), 2 - 20);
        x.points(6);
        x.join(0, 5);
        x.join(2, 4);
        due("judge(), one inside, but not right inside", x.judge(), 2);
        x.part(2);
        x.join(1, 4);
        x.join(2, 3);
        due("judge(), three", x.judge(), 3 - 40);
        due("best()", x.best(), 3 - 40);
        due("folds(1)", x.folds(1), 1);
        says("SCORES and BONUS at their ends");
        for (int end = -20; end <= 20; end += 40) {
            x = zeros(24, end, 0, end);
            x.points(24);
            for (int a = 0; a < 12; a++) {
                x.join(a, 23 - a);
            }
            due("judge(), twelve nested", x.judge(), 23 * end);
            due("best()", x.best(), Math.min(0, 23 * end));
            due("fold()", x.fold(), Math.min(0, 23 * end));
            due("number(0)", x.number(0), end < 0 ? 12 : 0);
        }
    }

    private static void best() {
        says("Promise 20: BEST, where there is but the FOLD without CHORDS");
        due("best() without STRAND", new ChordFolds().best(), 0);
        due("best() of one LETTER", zeros(1, -20, 0, -20).best(), 0);
        due("best() of 24, BARRED", zeros(24, 21, 0, -20).best(), 0);
        due("best() of 24, SCORES above 0", zeros(24, 1, 0, 0).best(), 0);
        due("best() of 24, SCORES and BONUS above 0", zeros(24, 20, 0, 20).best(), 0);
        says("Promise 20: BEST, at its least");
        due("best() of two", zeros(2, -20, 0, -20).best(), -20);
        due("best() of 24", zeros(24, -20, 0, -20).best(), -460);
        due("best() of 24 without BONUS", zeros(24, -20, 0, 0).best(), -240);
        due("BONUS pays for SCORES just not", zeros(24, 20, 0, -20).best(), 0);
        due("BONUS pays for SCORES just so", zeros(24, 18, 0, -20).best(), -4);
        says("Promise 20: nothing but the answer");
        for (int state = 0; state < STATES; state++) {
            ChordFolds x = inState(state);
            long best = x.best();
            refusedIn(state, "best()", best, ChordFolds::best);
        }
    }

    private static void folds() {
        says("Promise 21: How many FOLDS there are (way 0), BEST ones (1)");
        for (int way = 0; way <= 1; way++) {
            due("folds(" + way + ") without STRAND", new ChordFolds().folds(way), 1);
            due("folds(" + way + ") of one LETTER", zeros(1, -20, 0, 0).folds(way), 1);
            due("folds(" + way + ") of 24, BARRED", zeros(24, 21, 0, 0).folds(way), 1);
            due("folds(" + way + ") of two, SCORE 0", zeros(2, 0, 0, 0).folds(way), 2);
            due("folds(" + way + ") of 24, SCORE 0", zeros(24, 0, 0, 0).folds(way), 3192727797L);
        }
        due("folds(1) of two, SCORE 1", zeros(2, 1, 0, 0).folds(1), 1);
        due("folds(1) of two, SCORE -1", zeros(2, -1, 0, 0).folds(1), 1);
        due("folds(1) of three, SCORE -1", zeros(3, -1, 0, 0).folds(1), 3);
        due("BONUS counts in no way for way 0", zeros(24, 20, 0, 20).folds(0), 3192727797L);
        due("BONUS that pays just not: the bare one", zeros(24, 20, 0, -20).folds(1), 1);
        says("Promise 21: -2: BAD");
        for (int way : new int[] {-1, 2, MAX, MIN}) {
            refused("folds(" + way + ")", BAD, x -> x.folds(way));
        }
    }

    private static void fold() {
        says("Promise 22: THE DRAWING becomes FIRST: BEST");
        ChordFolds x = new ChordFolds();
        due("fold() without STRAND", x.fold(), 0);
        mates(x);
        x = zeros(1, -20, 0, 0);
        due("fold() of one LETTER", x.fold(), 0);
        mates(x, NONE);
        x = zeros(2, -20, 0, 0);
        due("fold() of two", x.fold(), -20);
        mates(x, 1, 0);
        x = inState(FULLEST);
        x.wipe();
        due("fold() without STRAND", x.fold(), 0);
        mates(x);
        says("FIRST: without CHORD ahead of a partner, lesser partners ahead");
        x = zeros(3, -1, 0, 0);
        due("fold() of three", x.fold(), -1);
        mates(x, NONE, 2, 1);
        x = zeros(4, -1, 0, 0);
        due("fold() of four", x.fold(), -2);
        mates(x, 1, 0, 3, 2);
        x = zeros(24, 0, 0, 0);
        due("fold() of 24, SCORE 0", x.fold(), 0);
        due("number(0)", x.number(0), 0);
        due("count(0)", x.count(0), 24);
        x = zeros(24, -20, 0, 0);
        due("fold() of 24, SCORE -20", x.fold(), -240);
        due("place()", x.place(), 0);
        x = zeros(24, -20, 0, -20);
        due("fold() of 24, BONUS -20", x.fold(), -460);
        due("place()", x.place(), 316234143224L);
    }

    /** Where a CHORD pays with BONUS alone, it must not stand where it earns none. */
    private static void foldWithBonus() {
        says("FIRST: with BONUS for each CHORD (a, b) with a CHORD (a - 1, b + 1)");
        for (int length = 2; length <= 3; length++) {
            ChordFolds x = zeros(length, 10, 0, -20);
            due("fold() of " + length + ", none earns BONUS", x.fold(), 0);
            due("number(0)", x.number(0), 0);
            due("count(0)", x.count(0), length);
        }
        ChordFolds x = zeros(4, 5, 0, -20);
        due("fold() of four, the inner one earns BONUS", x.fold(), -10);
        mates(x, 3, 2, 1, 0);
        x = zeros(5, 5, 0, -20);
        due("fold() of five, the last ones", x.fold(), -10);
        mates(x, NONE, 4, 3, 2, 1);
        x = zeros(2, -1, 0, -20);
        x.letter(1);
        x.letter(1);
        x.score(1, 1, 10);
        due("fold(), beside a CHORD none earns BONUS", x.fold(), -1);
        mates(x, 1, 0, NONE, NONE);
    }

    private static void judge() {
        says("Promise 23: The least int: it is none (also of other length)");
        refusedIn(FRESH, "judge()", MIN, ChordFolds::judge);
        refusedIn(STUCK, "judge()", MIN, ChordFolds::judge);
        ChordFolds x = zeros(8, -1, 0, 0);
        due("as long, no CHORDS", x.judge(), 0);
        x.points(7);
        due("one POINT less", x.judge(), MIN);
        x.points(9);
        due("one POINT more", x.judge(), MIN);
        x.points(0);
        due("no POINTS", x.judge(), MIN);
        x.wipe();
        due("no POINTS, no STRAND", x.judge(), 0);
        x.points(1);
        due("one POINT, no STRAND", x.judge(), MIN);
        x.letter(3);
        due("one POINT, one LETTER", x.judge(), 0);
        x = zeros(24, -1, 0, 0);
        x.points(24);
        x.join(0, 23);
        due("24 POINTS", x.judge(), -1);
        x.points(23);
        due("23 POINTS", x.judge(), MIN);
        says("Promise 23: it is none: CROSSINGS, BARRED");
        x = zeros(4, 20, 0, 20);
        x.points(4);
        x.join(0, 2);
        x.join(1, 3);
        due("one crossing", x.judge(), MIN);
        x.part(3);
        due("no crossing", x.judge(), 20);
        x.score(0, 0, 21);
        due("BARRED", x.judge(), MIN);
        x.part(0);
        due("BARRED, no CHORDS", x.judge(), 0);
    }

    private static void count() {
        says("Promise 24: 0 POINTS, 1 LETTERS of THE STRAND, 2 signs at hand, 3 CHORDS open in these");
        int[][] want = {{8, 0, 0, 0}, {0, 0, 0, 0}, {5, 5, 5, 3}, {24, 24, 24, 0}, {23, 1, 24, 24}};
        for (int state = 0; state < STATES; state++) {
            for (int what = 0; what < 4; what++) {
                int w = what;
                refusedIn(state, "count(" + w + ")", want[state][w], x -> x.count(w));
            }
        }
        says("Promise 24: BAD");
        for (int what : new int[] {-1, 4, MAX, MIN}) {
            refused("count(" + what + ")", BAD, x -> x.count(what));
        }
    }

    public static void main(String[] args) {
        statesAreAsMeant();
        theLastCall();
        newObject();
        points();
        join();
        part();
        at();
        numbersAtEdges();
        handles();
        crossingsAndNestings();
        parts();
        tangleAndNest();
        shortestAndStacks();
        height();
        shape();
        mirror();
        many();
        row();
        place();
        worth();
        sign();
        draw();
        letter();
        wipe();
        score();
        set();
        gapAtWork();
        bonusAtWork();
        best();
        folds();
        fold();
        foldWithBonus();
        judge();
        count();
        System.out.println(wrong == 0 ? "all answers are as due, " + sentences + " sentences looked at"
            : wrong + " answers are not as due");
        if (wrong != 0) {
            System.exit(1);
        }
    }
}
