import java.util.Arrays;

/** Chords on a line of points, full drawings in order, and strands folded at the least score. */
public final class ChordFolds {
    public static final int NONE = -1, BAD = -2, NOT = -3, FULL = -4;

    private static final int MOST_POINTS = 24;
    private static final int MOST_CHORDS = 12;
    private static final int MOST_HANDLES = 6;
    private static final int MOST_CROSSINGS = 66;
    private static final int POINTS_AT_FIRST = 8;
    private static final int MOST_LETTERS = 24;
    private static final int LETTER_KINDS = 4;
    private static final int MOST_SCORE = 20;
    private static final int BARRED = 21;
    private static final int MOST_GAP = 8;
    private static final int GAP_AT_FIRST = 3;
    private static final int LEAST_INT = -2147483648;

    /** How many full drawings there are of 0 .. 12 chords: 1 * 3 * 5 * .. */
    private static final long[] FULL_DRAWINGS = {
        1L, 1L, 3L, 15L, 105L, 945L, 10395L, 135135L, 2027025L, 34459425L,
        654729075L, 13749310575L, 316234143225L
    };

    private final Drawing drawing;
    private final Census census;
    private final SignRow signs;
    private final Strand strand;
    private final Folder folder;

    public ChordFolds() {
        drawing = new Drawing();
        census = new Census();
        signs = new SignRow();
        strand = new Strand();
        folder = new Folder();
    }

    // ---- the drawing

    public int points(int l) {
        if (l < 0 || l > MOST_POINTS) {
            return BAD;
        }
        drawing.clear(l);
        return 1;
    }

    public int join(int a, int b) {
        if (!drawing.hasPoint(a) || !drawing.hasPoint(b) || a == b) {
            return BAD;
        }
        if (drawing.isJoined(a) || drawing.isJoined(b)) {
            return NOT;
        }
        drawing.link(a, b);
        return drawing.chords();
    }

    public int part(int a) {
        if (!drawing.hasPoint(a)) {
            return BAD;
        }
        if (!drawing.isJoined(a)) {
            return NOT;
        }
        return drawing.unlink(a);
    }

    public int at(int a) {
        return drawing.hasPoint(a) ? drawing.mate[a] : BAD;
    }

    public int number(int k) {
        switch (k) {
            case 0:
                return drawing.chords();
            case 1:
                return drawing.handles();
            case 2:
                return drawing.crossings();
            case 3:
                return drawing.nestings();
            case 4:
                return drawing.parts();
            case 5:
                return drawing.tangle();
            case 6:
                return drawing.nest();
            case 7:
                return drawing.shortest();
            case 8:
                return drawing.stacks();
            default:
                return BAD;
        }
    }

    public int height(int a) {
        return drawing.hasPoint(a) ? drawing.openBehind(a) : BAD;
    }

    public int shape() {
        drawing.reduce();
        return drawing.size;
    }

    public int mirror() {
        drawing.turnAbout();
        return 1;
    }

    // ---- full drawings

    public long many(int way, int n, int v) {
        if (way < 0 || way > 2 || n < 0 || n > MOST_CHORDS) {
            return BAD;
        }
        // A chord that ends with j of h other open chords begun behind it has j crossings and
        // h - j nestings there; j and h - j run over the same values, so both are spread alike.
        return way == 0 ? census.withHandles(n, v) : census.withCrossings(n, v);
    }

    public int row(int n, long k) {
        if (n < 0 || n > MOST_CHORDS || k < 0 || k >= FULL_DRAWINGS[n]) {
            return BAD;
        }
        drawing.becomeFull(n, k);
        return 1;
    }

    public long place() {
        return drawing.isFull() ? drawing.fullOnesAhead() : NOT;
    }

    public int worth(int i) {
        // The document puts NOT ahead of BAD here.
        if (!drawing.isFull()) {
            return NOT;
        }
        return drawing.hasPoint(i) ? drawing.signAt(i) : BAD;
    }

    public int sign(int v) {
        if (!signs.canTake(v)) {
            return BAD;
        }
        signs.take(v);
        return signs.length;
    }

    public int draw() {
        if (signs.open > 0) {
            return NOT;
        }
        signs.moveTo(drawing);
        return drawing.chords();
    }

    // ---- strands

    public int letter(int x) {
        if (!strand.isLetter(x)) {
            return BAD;
        }
        if (strand.length >= MOST_LETTERS) {
            return FULL;
        }
        strand.append(x);
        return strand.length;
    }

    public int wipe() {
        int had = strand.length;
        strand.length = 0;
        return had;
    }

    public int score(int x, int y, int v) {
        if (!strand.isLetter(x) || !strand.isLetter(y) || v < -MOST_SCORE || v > BARRED) {
            return LEAST_INT;
        }
        int was = strand.scores[x][y];
        strand.scores[x][y] = v;
        strand.scores[y][x] = v;
        return was;
    }

    public int set(int way, int v) {
        if (way == 0 && v >= 0 && v <= MOST_GAP) {
            int was = strand.gap;
            strand.gap = v;
            return was;
        }
        if (way == 1 && v >= -MOST_SCORE && v <= MOST_SCORE) {
            int was = strand.bonus;
            strand.bonus = v;
            return was;
        }
        return LEAST_INT;
    }

    public int best() {
        folder.weighAll(strand);
        return folder.leastScore(strand);
    }

    public long folds(int way) {
        if (way == 0) {
            return folder.countAll(strand);
        }
        if (way == 1) {
            folder.weighAll(strand);
            return folder.leastWays(strand);
        }
        return BAD;
    }

    public int fold() {
        folder.weighAll(strand);
        folder.drawFirst(strand, drawing);
        return folder.leastScore(strand);
    }

    public int judge() {
        return strand.isFold(drawing) ? strand.scoreOfFold(drawing) : LEAST_INT;
    }

    public int count(int what) {
        switch (what) {
            case 0:
                return drawing.size;
            case 1:
                return strand.length;
            case 2:
                return signs.length;
            case 3:
                return signs.open;
            default:
                return BAD;
        }
    }

    /** Points 0 .. size - 1 and, for each, the point that it is joined to. */
    private static final class Drawing {
        int size;
        final int[] mate = new int[MOST_POINTS];

        // Rows for the work of one call, made once because all rows of a run are counted.
        private final int[] rank = new int[MOST_POINTS];
        private final int[] joinedPoint = new int[MOST_POINTS];
        private final boolean[] seen = new boolean[MOST_POINTS];
        private final int[] chain = new int[MOST_POINTS];

        Drawing() {
            size = POINTS_AT_FIRST;
            Arrays.fill(mate, NONE);
        }

        void clear(int newSize) {
            size = newSize;
            Arrays.fill(mate, NONE);
        }

        boolean hasPoint(int a) {
            return a >= 0 && a < size;
        }

        boolean isJoined(int a) {
            return mate[a] != NONE;
        }

        boolean begins(int a) {
            return mate[a] > a;
        }

        boolean ends(int a) {
            return mate[a] != NONE && mate[a] < a;
        }

        boolean isChord(int a, int b) {
            return hasPoint(a) && hasPoint(b) && mate[a] == b;
        }

        void link(int a, int b) {
            mate[a] = b;
            mate[b] = a;
        }

        int unlink(int a) {
            int b = mate[a];
            mate[a] = NONE;
            mate[b] = NONE;
            return b;
        }

        boolean isFull() {
            return 2 * chords() == size;
        }

        int chords() {
            int sum = 0;
            for (int a = 0; a < size; a++) {
                if (begins(a)) {
                    sum++;
                }
            }
            return sum;
        }

        int handles() {
            int joined = rankJoined();
            for (int i = 0; i < joined; i++) {
                seen[i] = false;
            }
            int rounds = joined == 0 ? 1 : 0;
            for (int i = 0; i < joined; i++) {
                if (!seen[i]) {
                    rounds++;
                    walkRound(i, joined);
                }
            }
            return (1 + joined / 2 - rounds) / 2;
        }

        /** Numbers the joined points in order; answers how many there are. */
        private int rankJoined() {
            int joined = 0;
            for (int a = 0; a < size; a++) {
                if (isJoined(a)) {
                    rank[a] = joined;
                    joinedPoint[joined] = a;
                    joined++;
                }
            }
            return joined;
        }

        private void walkRound(int from, int joined) {
            int i = from;
            for (int step = 0; step < joined && !seen[i]; step++) {
                seen[i] = true;
                int next = rank[mate[joinedPoint[i]]] + 1;
                i = next < joined ? next : 0;
            }
        }

        int crossings() {
            int sum = 0;
            for (int a = 0; a < size; a++) {
                for (int c = a + 1; c < mate[a]; c++) {
                    if (mate[c] > mate[a]) {
                        sum++;
                    }
                }
            }
            return sum;
        }

        int nestings() {
            int sum = 0;
            for (int a = 0; a < size; a++) {
                for (int c = a + 1; c < mate[a]; c++) {
                    if (begins(c) && mate[c] < mate[a]) {
                        sum++;
                    }
                }
            }
            return sum;
        }

        int parts() {
            int sum = 0;
            for (int a = 0; a < size; a++) {
                if (ends(a) && openBehind(a) == 0) {
                    sum++;
                }
            }
            return sum;
        }

        int openBehind(int a) {
            int open = 0;
            for (int c = 0; c <= a; c++) {
                if (mate[c] > a) {
                    open++;
                }
            }
            return open;
        }

        int tangle() {
            int most = 0;
            for (int a = 0; a < size; a++) {
                if (begins(a)) {
                    most = Math.max(most, tangleOver(a));
                }
            }
            return most;
        }

        /** Chords that cross each other are all open behind the last beginning among them. */
        private int tangleOver(int place) {
            int most = 0;
            for (int a = 0; a <= place; a++) {
                if (mate[a] > place) {
                    int longest = 0;
                    for (int c = 0; c < a; c++) {
                        if (mate[c] > place && mate[c] < mate[a]) {
                            longest = Math.max(longest, chain[c]);
                        }
                    }
                    chain[a] = longest + 1;
                    most = Math.max(most, chain[a]);
                }
            }
            return most;
        }

        int nest() {
            int most = 0;
            for (int a = 0; a < size; a++) {
                if (begins(a)) {
                    int deepest = 0;
                    for (int c = 0; c < a; c++) {
                        if (mate[c] > mate[a]) {
                            deepest = Math.max(deepest, chain[c]);
                        }
                    }
                    chain[a] = deepest + 1;
                    most = Math.max(most, chain[a]);
                }
            }
            return most;
        }

        int shortest() {
            int least = 0;
            for (int a = 0; a < size; a++) {
                if (begins(a) && (least == 0 || mate[a] - a < least)) {
                    least = mate[a] - a;
                }
            }
            return least;
        }

        int stacks() {
            int sum = 0;
            for (int a = 0; a < size; a++) {
                if (begins(a) && !isChord(a - 1, mate[a] + 1)) {
                    sum++;
                }
            }
            return sum;
        }

        void reduce() {
            boolean changed = true;
            // Each round but the last takes a point or a chord away.
            for (int round = 0; changed && round <= 2 * MOST_POINTS; round++) {
                boolean lostPoints = dropUnjoined();
                boolean lostChords = dropInner();
                changed = lostPoints || lostChords;
            }
        }

        private boolean dropUnjoined() {
            int joined = rankJoined();
            boolean lost = joined < size;
            // joinedPoint[i] is never below i, so no mate is overwritten before it is read.
            for (int i = 0; i < joined; i++) {
                mate[i] = rank[mate[joinedPoint[i]]];
            }
            for (int a = joined; a < size; a++) {
                mate[a] = NONE;
            }
            size = joined;
            return lost;
        }

        private boolean dropInner() {
            boolean lost = false;
            for (int a = 0; a < size; a++) {
                int inner = a + 1;
                // A chord of two neighbours would otherwise be taken for the one inside itself.
                if (begins(a) && inner < mate[a] - 1 && isChord(inner, mate[a] - 1)) {
                    unlink(inner);
                    lost = true;
                }
            }
            return lost;
        }

        void turnAbout() {
            for (int a = 0; a < size; a++) {
                int b = mate[size - 1 - a];
                chain[a] = b == NONE ? NONE : size - 1 - b;
            }
            System.arraycopy(chain, 0, mate, 0, size);
        }

        void becomeFull(int n, long k) {
            clear(2 * n);
            long rest = k;
            int left = n;
            for (int a = 0; a < size; a++) {
                if (!isJoined(a) && left > 0) {
                    left--;
                    rest = linkInOrder(a, rest, FULL_DRAWINGS[left]);
                }
            }
        }

        /** Passes by one free partner for each full block of drawings; answers what is left of rest. */
        private long linkInOrder(int a, long rest, long block) {
            for (int b = a + 1; b < size; b++) {
                if (!isJoined(b)) {
                    if (rest < block) {
                        link(a, b);
                        return rest;
                    }
                    rest -= block;
                }
            }
            return rest;
        }

        long fullOnesAhead() {
            long ahead = 0;
            int left = size / 2;
            for (int a = 0; a < size; a++) {
                if (begins(a) && left > 0) {
                    left--;
                    ahead += lesserPartners(a) * FULL_DRAWINGS[left];
                }
            }
            return ahead;
        }

        /** Points between a and its partner that no earlier chord has taken. */
        private int lesserPartners(int a) {
            int sum = 0;
            for (int b = a + 1; b < mate[a]; b++) {
                if (mate[b] > a) {
                    sum++;
                }
            }
            return sum;
        }

        int signAt(int i) {
            if (begins(i)) {
                return 1;
            }
            int begunBehind = 0;
            for (int c = mate[i] + 1; c < i; c++) {
                if (mate[c] > i) {
                    begunBehind++;
                }
            }
            return 2 + begunBehind;
        }
    }

    /** How many full drawings have so many handles or crossings; worked out when first asked for. */
    private static final class Census {
        private final long[][] byHandles = new long[MOST_CHORDS + 1][MOST_HANDLES + 1];
        private final long[][] byCrossings = new long[MOST_CHORDS + 1][MOST_CROSSINGS + 1];
        private final long[][] atHeight = new long[MOST_CHORDS + 2][MOST_CROSSINGS + 1];
        private boolean handlesKnown;
        private boolean crossingsKnown;

        long withHandles(int n, int v) {
            if (v < 0 || v > MOST_HANDLES) {
                return 0;
            }
            if (!handlesKnown) {
                findHandles();
                handlesKnown = true;
            }
            return byHandles[n][v];
        }

        /** The recurrence of Harer and Zagier; n + 1 divides its right side. */
        private void findHandles() {
            byHandles[0][0] = 1;
            for (int n = 1; n <= MOST_CHORDS; n++) {
                for (int g = 0; g <= MOST_HANDLES; g++) {
                    long sum = 2L * (2 * n - 1) * byHandles[n - 1][g];
                    if (n >= 2 && g >= 1) {
                        sum += (2L * n - 1) * (n - 1) * (2 * n - 3) * byHandles[n - 2][g - 1];
                    }
                    byHandles[n][g] = sum / (n + 1);
                }
            }
        }

        long withCrossings(int n, int v) {
            if (v < 0 || v > MOST_CROSSINGS) {
                return 0;
            }
            if (!crossingsKnown) {
                findCrossings();
                crossingsKnown = true;
            }
            return byCrossings[n][v];
        }

        /**
         * Goes over the points from the left. Heights behind a point are all even or all odd, by
         * turns, so one table holds both what was and what comes.
         */
        private void findCrossings() {
            atHeight[0][0] = 1;
            byCrossings[0][0] = 1;
            int last = 2 * MOST_CHORDS;
            for (int told = 1; told <= last; told++) {
                int top = Math.min(told, last - told);
                for (int height = told % 2; height <= top; height += 2) {
                    stepTo(height);
                }
                if (told % 2 == 0) {
                    System.arraycopy(atHeight[0], 0, byCrossings[told / 2], 0, MOST_CROSSINGS + 1);
                }
            }
        }

        /** A chord begins from one below, or one of height + 1 ends with 0 .. height crossings more. */
        private void stepTo(int height) {
            long[] to = atHeight[height];
            long[] above = atHeight[height + 1];
            long ending = 0;
            for (int v = 0; v <= MOST_CROSSINGS; v++) {
                ending += above[v];
                if (v > height) {
                    ending -= above[v - height - 1];
                }
                to[v] = ending + (height > 0 ? atHeight[height - 1][v] : 0);
            }
        }
    }

    /** The row of worth at hand, held as the chords that its signs tell. */
    private static final class SignRow {
        int length;
        int open;
        private final int[] beginnings = new int[MOST_POINTS];
        private final int[] beginningOf = new int[MOST_POINTS];

        boolean canTake(int v) {
            return length < MOST_POINTS && v >= 1 && (v == 1 || v - 2 < open);
        }

        void take(int v) {
            if (v == 1) {
                beginnings[open] = length;
                beginningOf[length] = NONE;
                open++;
            } else {
                int which = open - 1 - (v - 2);
                beginningOf[length] = beginnings[which];
                open--;
                for (int i = which; i < open; i++) {
                    beginnings[i] = beginnings[i + 1];
                }
            }
            length++;
        }

        void moveTo(Drawing drawing) {
            drawing.clear(length);
            for (int b = 0; b < length; b++) {
                if (beginningOf[b] != NONE) {
                    drawing.link(beginningOf[b], b);
                }
            }
            length = 0;
        }
    }

    /** Letters in a row, and what a chord of two of them scores. */
    private static final class Strand {
        int length;
        int gap = GAP_AT_FIRST;
        int bonus;
        final int[][] scores = new int[LETTER_KINDS][LETTER_KINDS];
        private final int[] letters = new int[MOST_LETTERS];

        Strand() {
            for (int x = 0; x < LETTER_KINDS; x++) {
                Arrays.fill(scores[x], BARRED);
            }
        }

        boolean isLetter(int x) {
            return x >= 0 && x < LETTER_KINDS;
        }

        void append(int x) {
            letters[length] = x;
            length++;
        }

        int scoreOf(int a, int b) {
            return scores[letters[a]][letters[b]];
        }

        boolean mayJoin(int a, int b) {
            return b - a > gap && scoreOf(a, b) != BARRED;
        }

        boolean isFold(Drawing drawing) {
            if (drawing.size != length || drawing.crossings() > 0) {
                return false;
            }
            for (int a = 0; a < length; a++) {
                if (drawing.begins(a) && !mayJoin(a, drawing.mate[a])) {
                    return false;
                }
            }
            return true;
        }

        int scoreOfFold(Drawing drawing) {
            int sum = bonus * (drawing.chords() - drawing.stacks());
            for (int a = 0; a < length; a++) {
                if (drawing.begins(a)) {
                    sum += scoreOf(a, drawing.mate[a]);
                }
            }
            return sum;
        }
    }

    /**
     * Folds of stretches of a strand. Stretch [a][e] has the points a .. e - 1; it is bound where
     * (a - 1, e) is a chord, so that a chord (a, e - 1) earns the bonus, and loose elsewhere.
     */
    private static final class Folder {
        private final int[][] looseScore = new int[MOST_LETTERS + 1][MOST_LETTERS + 1];
        private final int[][] boundScore = new int[MOST_LETTERS + 1][MOST_LETTERS + 1];
        private final long[][] looseWays = new long[MOST_LETTERS + 1][MOST_LETTERS + 1];
        private final long[][] boundWays = new long[MOST_LETTERS + 1][MOST_LETTERS + 1];
        private final long[][] allWays = new long[MOST_LETTERS + 1][MOST_LETTERS + 1];
        private final int[] stretchEnd = new int[MOST_LETTERS + 1];
        private final boolean[] stretchBound = new boolean[MOST_LETTERS + 1];
        private int least;
        private long ways;

        int leastScore(Strand strand) {
            return looseScore[0][strand.length];
        }

        long leastWays(Strand strand) {
            return looseWays[0][strand.length];
        }

        void weighAll(Strand strand) {
            for (int a = strand.length; a >= 0; a--) {
                least = 0;
                ways = 1;
                keepLoose(a, a);
                keepBound(a, a);
                for (int e = a + 1; e <= strand.length; e++) {
                    weigh(strand, a, e);
                }
            }
        }

        private void weigh(Strand strand, int a, int e) {
            least = looseScore[a + 1][e];
            ways = looseWays[a + 1][e];
            int b = e - 1;
            for (int c = a + 1; c < b; c++) {
                if (strand.mayJoin(a, c)) {
                    offer(scoreWith(strand, a, c, e), boundWays[a + 1][c] * looseWays[c + 1][e]);
                }
            }
            keepBound(a, e);
            keepLoose(a, e);
            if (b > a && strand.mayJoin(a, b)) {
                int whole = scoreWith(strand, a, b, e);
                offer(whole, boundWays[a + 1][b]);
                keepLoose(a, e);
                least = boundScore[a][e];
                ways = boundWays[a][e];
                offer(whole + strand.bonus, boundWays[a + 1][b]);
                keepBound(a, e);
            }
        }

        /** The least that a loose stretch scores with a chord (a, c) at its beginning. */
        private int scoreWith(Strand strand, int a, int c, int e) {
            return strand.scoreOf(a, c) + boundScore[a + 1][c] + looseScore[c + 1][e];
        }

        private void offer(int offered, long offeredWays) {
            if (offered < least) {
                least = offered;
                ways = offeredWays;
            } else if (offered == least) {
                ways += offeredWays;
            }
        }

        private void keepLoose(int a, int e) {
            looseScore[a][e] = least;
            looseWays[a][e] = ways;
        }

        private void keepBound(int a, int e) {
            boundScore[a][e] = least;
            boundWays[a][e] = ways;
        }

        long countAll(Strand strand) {
            for (int a = strand.length; a >= 0; a--) {
                allWays[a][a] = 1;
                for (int e = a + 1; e <= strand.length; e++) {
                    long sum = allWays[a + 1][e];
                    for (int c = a + 1; c < e; c++) {
                        if (strand.mayJoin(a, c)) {
                            sum += allWays[a + 1][c] * allWays[c + 1][e];
                        }
                    }
                    allWays[a][e] = sum;
                }
            }
            return allWays[0][strand.length];
        }

        /** Chooses from the left; a choice that keeps the least score never spoils another stretch. */
        void drawFirst(Strand strand, Drawing drawing) {
            drawing.clear(strand.length);
            startStretch(0, strand.length, false);
            for (int a = 0; a < strand.length; a++) {
                if (!drawing.isJoined(a)) {
                    int e = stretchEnd[a];
                    int c = firstMate(strand, a, e, stretchBound[a]);
                    if (c == NONE) {
                        startStretch(a + 1, e, false);
                    } else {
                        drawing.link(a, c);
                        startStretch(a + 1, c, true);
                        startStretch(c + 1, e, false);
                    }
                }
            }
        }

        private void startStretch(int a, int e, boolean bound) {
            stretchEnd[a] = e;
            stretchBound[a] = bound;
        }

        private int firstMate(Strand strand, int a, int e, boolean bound) {
            int goal = bound ? boundScore[a][e] : looseScore[a][e];
            if (looseScore[a + 1][e] == goal) {
                return NONE;
            }
            for (int c = a + 1; c < e; c++) {
                if (strand.mayJoin(a, c)) {
                    int extra = bound && c == e - 1 ? strand.bonus : 0;
                    if (scoreWith(strand, a, c, e) + extra == goal) {
                        return c;
                    }
                }
            }
            return NONE;
        }
    }
}
