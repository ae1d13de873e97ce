/**
 * Variable phrases of letters told in words of an even width, by one tree for each state that the
 * letter ahead leaves behind it. The document's promises are named by number at each method.
 *
 * All rows are made with the object and used again: no call makes an object.
 */
public final class PhraseTrees {
    public static final int NONE = -1, BAD = -2, NOT = -3, FULL = -4, OVER = -5;

    private static final int NULL = -11, INDEX = -12, STORE = -13, SIZE = -14;
    private static final int FAULTS = -1000;
    private static final int MOST_LETTERS = 5, MOST_STATES = 3, MOST_WIDTH = 6;
    private static final int MOST_LEAVES = 64, MOST_NODES = 127, MOST_SPLITS = 63, MOST_DEPTH = 8;
    private static final int MOST_TEXT = 80, MOST_WORDS = 80, MOST_BYTES = 80, MOST_PLACES = 20;
    private static final int SLOTS = 4, CRATES = 4, SHEETS = 2;
    private static final int ROOT = 0, TURNS = 64;
    private static final int LEAST_INT = 1 << 31;
    private static final long LEAST_LONG = 1L << 63, GREATEST_LONG = ~LEAST_LONG;
    /** 16 to the 8: over this every chance in a tree is a whole number. */
    private static final long WHOLE = 1L << 32;

    private final Setting now = new Setting();
    private final Tree[] trees = new Tree[MOST_STATES];
    private final Setting[] slots = new Setting[SLOTS];
    private final boolean[] kept = new boolean[SLOTS];
    private final Crate[] crates = new Crate[CRATES];
    private final Sheet[] sheets = new Sheet[SHEETS];
    private final int[] text = new int[MOST_TEXT];
    private final int[] words = new int[MOST_WORDS];
    private final int[] phraseStates = new int[MOST_WORDS];
    private final int[] phraseNodes = new int[MOST_WORDS];
    private final double[] shares = new double[MOST_STATES];
    private final double[] nextShares = new double[MOST_STATES];
    private int textSize = 0;
    private int wordCount = 0;
    private int left = 0;
    private int finding = 0;

    /** Promise 1. */
    public PhraseTrees() {
        for (int q = 0; q < MOST_STATES; q++) {
            trees[q] = new Tree(q);
        }
        for (int s = 0; s < SLOTS; s++) {
            slots[s] = new Setting();
        }
        for (int c = 0; c < CRATES; c++) {
            crates[c] = new Crate();
        }
        for (int s = 0; s < SHEETS; s++) {
            sheets[s] = new Sheet();
        }
    }

    // ---- letters, states, trees

    /** Promise 2. */
    public int letters(int m, int q) {
        if (m < 2 || m > MOST_LETTERS || q < 1 || q > MOST_STATES) {
            return BAD;
        }
        if ((1 << now.width) < m) {
            return NOT;
        }
        now.begin(m, q);
        regrow();
        textSize = 0;
        emptyCode();
        return allLeaves();
    }

    /** Promise 3. */
    public int width(int b) {
        if (b < 1 || b > MOST_WIDTH) {
            return BAD;
        }
        if ((1 << b) < now.m) {
            return NOT;
        }
        int was = now.width;
        now.width = b;
        emptyCode();
        return was;
    }

    /** Promise 4. */
    public int weight(int q, int l, int v) {
        if (!isState(q) || l < 0 || l >= now.m - 1 || v < 1 || v > 15) {
            return BAD;
        }
        int was = now.weightOf(q, l);
        // what l gains the last letter loses, which must keep at least 1
        if (now.weightOf(q, now.m - 1) + was - v < 1) {
            return NOT;
        }
        now.reweigh(q, l, v);
        regrow();
        emptyCode();
        return was;
    }

    /** Promise 5. */
    public int tree(int q, int what) {
        if (!isState(q) || what < 0 || what > 7) {
            return BAD;
        }
        switch (what) {
            case 0:
                return now.leafCount();
            case 1:
                return now.nodeCount();
            case 2:
                return ready(q).longest;
            default:
                return what - 3 < now.m ? now.weightOf(q, what - 3) : 0;
        }
    }

    /** Promise 6. */
    public int node(int q, int i, int what) {
        if (!isNode(q, i) || what < 0 || what > 10) {
            return LEAST_INT;
        }
        Tree t = ready(q);
        int n = t.order[i];
        switch (what) {
            case 0:
                return t.grown.depth[n];
            case 1:
                return t.isLeaf(n) ? t.firstWord[n] : NONE;
            case 10:
                return t.nodesFrom[n] - 1;
            default:
                return what - 2 < t.grown.depth[n] ? t.grown.letterAt(n, what - 2) : NONE;
        }
    }

    /** Promise 7. */
    public long chance(int q, int i, int what) {
        if (!isNode(q, i) || what < 0 || what > 1) {
            return refusal(BAD);
        }
        Tree t = ready(q);
        return lowest(t.grown.chance[t.order[i]], WHOLE, what);
    }

    /** Promise 8. */
    public int bits(int q, int i) {
        if (!isNode(q, i)) {
            return 0;
        }
        Tree t = ready(q);
        return t.grown.chanceBits(t.order[i]);
    }

    /** Promise 9. */
    public long expected(int q, int what) {
        if (!isState(q) || what < 0 || what > 3) {
            return refusal(BAD);
        }
        long sum = ready(q).lengthSum;
        if (what < 2) {
            return lowest(sum, WHOLE, what);
        }
        float mean = (float) sum / (float) WHOLE;
        return Bits.ofFloat(what == 2 ? mean : mean / (float) now.width);
    }

    /** Promise 10. */
    public long longRun() {
        for (int q = 0; q < now.q; q++) {
            shares[q] = q == 0 ? 1.0 : 0.0;
        }
        for (int turn = 0; turn < TURNS; turn++) {
            turnShares();
        }
        double sum = 0.0;
        for (int q = 0; q < now.q; q++) {
            sum += shares[q] * ((double) ready(q).lengthSum / (double) WHOLE);
        }
        return Bits.ofDouble(sum);
    }

    private void turnShares() {
        for (int to = 0; to < now.q; to++) {
            double sum = 0.0;
            for (int from = 0; from < now.q; from++) {
                sum += shares[from] * ((double) ready(from).endSums[to] / (double) WHOLE);
            }
            nextShares[to] = sum;
        }
        for (int q = 0; q < now.q; q++) {
            shares[q] = nextShares[q];
        }
    }

    // ---- the text, the code

    /** Promise 11. */
    public int type(int l) {
        if (!isLetter(l)) {
            return BAD;
        }
        if (textSize >= MOST_TEXT) {
            return FULL;
        }
        text[textSize] = l;
        textSize++;
        return textSize;
    }

    /** Promise 12. */
    public int wipe() {
        int was = textSize;
        textSize = 0;
        return was;
    }

    /** Promise 13. */
    public int letter(int k) {
        return k < 0 || k >= textSize ? BAD : text[k];
    }

    /** Promise 14. */
    public int read(int s) {
        if (!isSheet(s)) {
            return BAD;
        }
        Sheet sheet = sheets[s];
        if (sheet.isLost()) {
            return found(NULL);
        }
        textSize = 0;
        for (int i = 0; i < sheet.size && isLetter(sheet.bytes[i]); i++) {
            text[i] = sheet.bytes[i];
            textSize++;
        }
        return textSize;
    }

    /** Promise 15. */
    public int encode() {
        emptyCode();
        int state = 0;
        int node = ROOT;
        for (int k = 0; k < textSize; k++) {
            Tree t = ready(state);
            node = t.grown.childOf(node, text[k]);
            if (t.isLeaf(node)) {
                addWord(t.firstWord[node]);
                state = now.behind(text[k]);
                node = ROOT;
            }
        }
        if (node != ROOT) {
            Tree t = ready(state);
            addWord(t.firstWord[node]);
            left = t.grown.depth[node];
        }
        return wordCount;
    }

    /** Promise 16. */
    public int decode() {
        int wrong = firstFault();
        if (wrong != NONE) {
            return FAULTS - wrong;
        }
        if (lettersToldBack() > MOST_TEXT) {
            return FULL;
        }
        textSize = 0;
        for (int k = 0; k < wordCount; k++) {
            Growth g = trees[phraseStates[k]].grown;
            int size = toldBack(k);
            for (int i = 0; i < size; i++) {
                text[textSize] = g.letterAt(phraseNodes[k], i);
                textSize++;
            }
        }
        return textSize;
    }

    /** Promise 17. */
    public int code(int k) {
        return k < 0 || k >= wordCount ? BAD : words[k];
    }

    /** Promise 18. */
    public int put(int k, int v) {
        if (k < 0 || k > wordCount || !isWord(v)) {
            return BAD;
        }
        if (k >= MOST_WORDS) {
            return FULL;
        }
        words[k] = v;
        if (k == wordCount) {
            wordCount++;
        }
        return wordCount;
    }

    /** Promise 19. */
    public int rest(int r) {
        if (r < 0 || r > MOST_DEPTH) {
            return BAD;
        }
        int was = left;
        left = r;
        return was;
    }

    /** Promise 20. */
    public int fault() {
        return firstFault();
    }

    /** Promise 21. */
    public int harm(int k, int v) {
        if (k < 0 || k >= wordCount || !isWord(v)) {
            return BAD;
        }
        if (firstFault() != NONE) {
            return NOT;
        }
        return harmed(k, v);
    }

    /** Promise 22. */
    public int best(int what) {
        if (what < 0 || what > 1) {
            return BAD;
        }
        int width = 0;
        int fewest = 0;
        for (int b = 1; b <= MOST_WIDTH; b++) {
            if ((1 << b) >= now.m) {
                int bits = wordsBy(b) * b;
                if (width == 0 || bits < fewest) {
                    width = b;
                    fewest = bits;
                }
            }
        }
        return what == 0 ? width : fewest;
    }

    /** Promise 23. */
    public long likely(int what) {
        if (what < 0 || what > 1) {
            return refusal(BAD);
        }
        long above = 1;
        long below = 1;
        int state = 0;
        for (int k = 0; k < textSize; k++) {
            // above never is more than below, for no weight is more than 15
            if (below > GREATEST_LONG / 16) {
                return refusal(OVER);
            }
            above *= now.weightOf(state, text[k]);
            below *= 16;
            int twos = commonTwos(above, below);
            above >>= twos;
            below >>= twos;
            state = now.behind(text[k]);
        }
        return what == 0 ? above : below;
    }

    // ---- slots

    /** Promise 24. */
    public int keep(int s) {
        if (!isSlot(s)) {
            return BAD;
        }
        slots[s].copyFrom(now);
        kept[s] = true;
        return fullSlots();
    }

    /** Promise 25. */
    public int take(int s) {
        if (!isSlot(s)) {
            return BAD;
        }
        if (!kept[s]) {
            return found(NULL);
        }
        now.copyFrom(slots[s]);
        regrow();
        textSize = 0;
        emptyCode();
        return allLeaves();
    }

    /** Promise 26. */
    public int drop(int s) {
        if (!isSlot(s)) {
            return BAD;
        }
        if (!kept[s]) {
            return found(NULL);
        }
        kept[s] = false;
        return fullSlots();
    }

    // ---- crates, sheets

    /** Promise 27. */
    public int crate(int c, int form, int n) {
        if (!isCrate(c) || form < Crate.ANY || form > Crate.SPLIT_ALONE || n > MOST_PLACES) {
            return BAD;
        }
        if (n < 0) {
            return found(SIZE);
        }
        crates[c].begin(form, n);
        return n;
    }

    /** Promise 28. */
    public int lose(int c) {
        if (!isCrate(c)) {
            return BAD;
        }
        if (crates[c].isLost()) {
            return found(NULL);
        }
        int was = crates[c].size;
        crates[c].size = Crate.LOST;
        return was;
    }

    /** Promise 29. */
    public int hold(int c, int i, int q, int j) {
        if (!isCrate(c) || !isNode(q, j)) {
            return BAD;
        }
        Crate crate = crates[c];
        if (crate.isLost()) {
            return found(NULL);
        }
        if (i < 0 || i >= crate.size) {
            return found(INDEX);
        }
        Tree t = ready(q);
        int n = t.order[j];
        if (!crate.isFor(t.isLeaf(n))) {
            return found(STORE);
        }
        crate.place(i, t.grown.depth[n], t.isLeaf(n), t.grown.chanceBits(n));
        return 1;
    }

    /** Promise 30. */
    public int held(int c, int i, int what) {
        if (!isCrate(c) || what < 0 || what > 2) {
            return BAD;
        }
        Crate crate = crates[c];
        if (crate.isLost()) {
            return found(NULL);
        }
        if (i < 0 || i >= crate.size) {
            return found(INDEX);
        }
        return crate.hasNothing(i) ? found(NULL) : crate.told(i, what);
    }

    /** Promise 31. */
    public int move(int c, int i, int d, int j, int n) {
        if (!isCrate(c) || !isCrate(d)) {
            return BAD;
        }
        if (crates[c].isLost() || crates[d].isLost()) {
            return found(NULL);
        }
        if (!isRange(i, n, crates[c].size) || !isRange(j, n, crates[d].size)) {
            return found(INDEX);
        }
        return moveAll(c, i, d, j, n) ? n : found(STORE);
    }

    private boolean moveAll(int c, int i, int d, int j, int n) {
        // within one crate what lies ahead of its new place is moved from the end on, lest it be
        // written over; between two crates the order must be from the first on, because of STORE
        boolean fromEnd = c == d && i < j;
        for (int k = 0; k < n; k++) {
            int at = fromEnd ? n - 1 - k : k;
            if (!crates[d].isForPlace(crates[c], i + at)) {
                return false;
            }
            crates[d].copyPlace(j + at, crates[c], i + at);
        }
        return true;
    }

    /** Promise 32. */
    public int sheet(int s, int n) {
        if (!isSheet(s) || n > MOST_BYTES) {
            return BAD;
        }
        if (n < 0) {
            return found(SIZE);
        }
        sheets[s].begin(n);
        return n;
    }

    /** Promise 33. */
    public int lay(int s, int i, int v) {
        if (!isSheet(s)) {
            return BAD;
        }
        if (sheets[s].isLost()) {
            return found(NULL);
        }
        if (i < 0 || i >= sheets[s].size) {
            return found(INDEX);
        }
        sheets[s].bytes[i] = (byte) v;
        return 1;
    }

    /** Promise 34. */
    public int get(int s, int i) {
        if (!isSheet(s)) {
            return LEAST_INT;
        }
        if (sheets[s].isLost()) {
            found(NULL);
            return LEAST_INT;
        }
        if (i < 0 || i >= sheets[s].size) {
            found(INDEX);
            return LEAST_INT;
        }
        return sheets[s].bytes[i];
    }

    /** Promise 35. */
    public int write(int s) {
        if (!isSheet(s)) {
            return BAD;
        }
        if (sheets[s].isLost()) {
            return found(NULL);
        }
        int n = Math.min(sheets[s].size, wordCount);
        for (int k = 0; k < n; k++) {
            sheets[s].bytes[k] = (byte) words[k];
        }
        return n;
    }

    /** Promise 36. */
    public int count(int what) {
        switch (what) {
            case 0:
                return now.m;
            case 1:
                return now.q;
            case 2:
                return now.width;
            case 3:
                return textSize;
            case 4:
                return wordCount;
            case 5:
                return left;
            case 6:
                return allLeaves();
            case 7:
                return fullCrates();
            case 8:
                return finding;
            default:
                return BAD;
        }
    }

    /** Promise 37. */
    public long digest() {
        long h = 17;
        for (int what = 0; what <= 7; what++) {
            h = 31 * h + count(what);
        }
        for (int q = 0; q < now.q; q++) {
            h = digestTree(h, q);
        }
        h = 31 * h + longRun();
        for (int k = 0; k < textSize; k++) {
            h = 31 * h + text[k];
        }
        for (int k = 0; k < wordCount; k++) {
            h = 31 * h + words[k];
        }
        h = 31 * h + firstFault();
        h = 31 * h + best(0);
        h = 31 * h + best(1);
        h = 31 * h + likely(0);
        h = 31 * h + likely(1);
        for (int c = 0; c < CRATES; c++) {
            h = digestCrate(h, crates[c]);
        }
        return h;
    }

    private long digestTree(long before, int q) {
        long h = before;
        for (int what = 0; what <= 7; what++) {
            h = 31 * h + tree(q, what);
        }
        for (int what = 0; what <= 3; what++) {
            h = 31 * h + expected(q, what);
        }
        int nodes = now.nodeCount();
        for (int i = 0; i < nodes; i++) {
            for (int what = 0; what <= 10; what++) {
                h = 31 * h + node(q, i, what);
            }
            h = 31 * h + chance(q, i, 0);
            h = 31 * h + chance(q, i, 1);
            h = 31 * h + bits(q, i);
        }
        return h;
    }

    /** Tells a place with NOTHING as held() answers it, but digest() itself answers no FINDING. */
    private long digestCrate(long before, Crate crate) {
        long h = before;
        for (int i = 0; i < crate.size; i++) {
            for (int what = 0; what <= 2; what++) {
                h = 31 * h + (crate.hasNothing(i) ? NULL : crate.told(i, what));
            }
        }
        return h;
    }

    // ---- what the calls share

    private boolean isState(int q) {
        return q >= 0 && q < now.q;
    }

    private boolean isLetter(int l) {
        return l >= 0 && l < now.m;
    }

    private boolean isNode(int q, int i) {
        return isState(q) && i >= 0 && i < now.nodeCount();
    }

    private static boolean isWord(int v) {
        return v >= 0 && v < MOST_LEAVES;
    }

    private static boolean isSlot(int s) {
        return s >= 0 && s < SLOTS;
    }

    private static boolean isCrate(int c) {
        return c >= 0 && c < CRATES;
    }

    private static boolean isSheet(int s) {
        return s >= 0 && s < SHEETS;
    }

    private static boolean isRange(int from, int n, int size) {
        return from >= 0 && n >= 0 && from <= size && n <= size - from;
    }

    private int found(int answer) {
        finding = -10 - answer;
        return answer;
    }

    private static long refusal(int answer) {
        return LEAST_LONG - answer;
    }

    /** Every tree has as many leaves: fewer than 64 of them can't all have 8 letters already. */
    private int allLeaves() {
        return now.q * now.leafCount();
    }

    private int fullSlots() {
        int n = 0;
        for (int s = 0; s < SLOTS; s++) {
            n += kept[s] ? 1 : 0;
        }
        return n;
    }

    private int fullCrates() {
        int n = 0;
        for (int c = 0; c < CRATES; c++) {
            n += crates[c].isLost() ? 0 : 1;
        }
        return n;
    }

    private void emptyCode() {
        wordCount = 0;
        left = 0;
    }

    private void addWord(int word) {
        if (wordCount < MOST_WORDS) {
            words[wordCount] = word;
            wordCount++;
        }
    }

    /** Trees are grown when they are first asked for, so that many settings in a row cost little. */
    private void regrow() {
        for (int q = 0; q < MOST_STATES; q++) {
            trees[q].fell();
        }
    }

    private Tree ready(int q) {
        Tree t = trees[q];
        int wanted = now.splitsBy(now.width);
        if (t.splits != wanted) {
            t.grown.growTo(wanted, now);
            t.tellBy(wanted, now);
        }
        return t;
    }

    private static int commonTwos(long above, long below) {
        int twos = 0;
        for (int k = 0; k < 63 && ((above | below) >> k & 1) == 0; k++) {
            twos++;
        }
        return twos;
    }

    /** Below is a power of 2, so twos are all that the two can have in common. */
    private static long lowest(long above, long below, int what) {
        int twos = commonTwos(above, below);
        return what == 0 ? above >> twos : below >> twos;
    }

    /** Finds the PHRASES of THE CODE; answers how many there are. */
    private int findPhrases() {
        int state = 0;
        int leaves = now.leafCount();
        for (int k = 0; k < wordCount; k++) {
            if (words[k] >= leaves) {
                return k;
            }
            Tree t = ready(state);
            phraseStates[k] = state;
            phraseNodes[k] = t.leafOf[words[k]];
            state = now.behind(t.grown.lastLetter(phraseNodes[k]));
        }
        return wordCount;
    }

    private int phraseSize(int k) {
        return trees[phraseStates[k]].grown.depth[phraseNodes[k]];
    }

    private int toldBack(int k) {
        return left > 0 && k == wordCount - 1 ? left : phraseSize(k);
    }

    private int lettersToldBack() {
        int sum = 0;
        for (int k = 0; k < wordCount; k++) {
            sum += toldBack(k);
        }
        return sum;
    }

    private int firstFault() {
        int phrases = findPhrases();
        if (phrases < wordCount) {
            return phrases;
        }
        int most = wordCount == 0 ? 0 : phraseSize(wordCount - 1);
        return left > most ? wordCount : NONE;
    }

    /** Needs the PHRASES found; those ahead of word k can't be harmed. */
    private int harmed(int k, int v) {
        int harmed = 0;
        int state = phraseStates[k];
        int leaves = now.leafCount();
        for (int j = k; j < wordCount; j++) {
            int word = j == k ? v : words[j];
            if (word >= leaves) {
                return harmed + wordCount - j;
            }
            Tree t = ready(state);
            int node = t.leafOf[word];
            Growth was = trees[phraseStates[j]].grown;
            if (!t.grown.hasLettersOf(node, was, phraseNodes[j])) {
                harmed++;
            }
            state = now.behind(t.grown.lastLetter(node));
        }
        return harmed;
    }

    /** How many words tell THE TEXT by a width; trees of a lesser one are the beginning of it. */
    private int wordsBy(int width) {
        int splits = now.splitsBy(width);
        int count = 0;
        int state = 0;
        int node = ROOT;
        for (int k = 0; k < textSize; k++) {
            Growth g = trees[state].grown;
            g.growTo(splits, now);
            node = g.childOf(node, text[k]);
            if (g.splitOf[node] >= splits) {
                count++;
                state = now.behind(text[k]);
                node = ROOT;
            }
        }
        return node == ROOT ? count : count + 1;
    }

    /** M, Q, WEIGHTS and WIDTH: what trees are grown by, and what a slot keeps. */
    private static final class Setting {
        int m;
        int q;
        int width = 3;
        final int[] weights = new int[MOST_STATES * MOST_LETTERS];

        Setting() {
            begin(3, 1);
        }

        void begin(int letters, int states) {
            m = letters;
            q = states;
            int even = letters > 0 ? 16 / letters : 0;
            for (int s = 0; s < MOST_STATES; s++) {
                for (int l = 0; l < letters; l++) {
                    weights[s * MOST_LETTERS + l] = l < letters - 1 ? even : 16 - even * (letters - 1);
                }
            }
        }

        void copyFrom(Setting other) {
            m = other.m;
            q = other.q;
            width = other.width;
            System.arraycopy(other.weights, 0, weights, 0, weights.length);
        }

        int weightOf(int state, int l) {
            return weights[state * MOST_LETTERS + l];
        }

        void reweigh(int state, int l, int v) {
            int last = state * MOST_LETTERS + m - 1;
            weights[last] += weightOf(state, l) - v;
            weights[state * MOST_LETTERS + l] = v;
        }

        int behind(int l) {
            return q > 0 ? l % q : 0;
        }

        /** The root's split makes M leaves, each further one M less 1 more. */
        int splitsBy(int bits) {
            return m > 1 ? ((1 << bits) - 1) / (m - 1) : 0;
        }

        int leafCount() {
            return 1 + splitsBy(width) * (m - 1);
        }

        int nodeCount() {
            return 1 + splitsBy(width) * m;
        }
    }

    /**
     * The nodes from one state on, in the order in which they come: split number k makes nodes
     * 1 + k M to M + k M. A tree of fewer splits is the beginning of one of more.
     */
    private static final class Growth {
        final int start;
        /** Letters, 3 bits each, the last one lowest. */
        final int[] letterBits = new int[MOST_NODES];
        final int[] depth = new int[MOST_NODES];
        /** Over WHOLE. */
        final long[] chance = new long[MOST_NODES];
        /** The number of the split of a node; MOST_SPLITS: not split. */
        final int[] splitOf = new int[MOST_NODES];
        final int[] nodeSplit = new int[MOST_SPLITS];
        /** Leaves with fewer than 8 letters. */
        final int[] open = new int[MOST_LEAVES];
        int openCount = 0;
        int splits = 0;
        int m = 0;

        Growth(int start) {
            this.start = start;
        }

        void growTo(int wanted, Setting s) {
            if (splits == 0) {
                m = s.m;
                openCount = 0;
                addNode(ROOT, 0, 0, WHOLE);
            }
            int most = Math.min(wanted, MOST_SPLITS);
            for (int k = splits; k < most && openCount > 0; k++) {
                split(likeliest(), s);
            }
        }

        private void addNode(int n, int nodeDepth, int bits, long nodeChance) {
            depth[n] = nodeDepth;
            letterBits[n] = bits;
            chance[n] = nodeChance;
            splitOf[n] = MOST_SPLITS;
            if (nodeDepth < MOST_DEPTH) {
                open[openCount] = n;
                openCount++;
            }
        }

        private void split(int at, Setting s) {
            int n = open[at];
            openCount--;
            open[at] = open[openCount];
            int state = depth[n] == 0 ? start : s.behind(lastLetter(n));
            int child = 1 + splits * m;
            for (int l = 0; l < m; l++) {
                // a node of fewer than 8 letters has a chance over WHOLE that 16 divides
                addNode(child + l, depth[n] + 1, letterBits[n] << 3 | l,
                        chance[n] / 16 * s.weightOf(state, l));
            }
            splitOf[n] = splits;
            nodeSplit[splits] = n;
            splits++;
        }

        private int likeliest() {
            int at = 0;
            for (int k = 1; k < openCount; k++) {
                if (isAhead(open[k], open[at])) {
                    at = k;
                }
            }
            return at;
        }

        private boolean isAhead(int a, int b) {
            if (chance[a] != chance[b]) {
                return chance[a] > chance[b];
            }
            if (depth[a] != depth[b]) {
                return depth[a] < depth[b];
            }
            return letterBits[a] < letterBits[b];
        }

        /** Only for a node that is split. */
        int childOf(int n, int l) {
            return 1 + splitOf[n] * m + l;
        }

        int letterAt(int n, int k) {
            return letterBits[n] >> 3 * (depth[n] - 1 - k) & 7;
        }

        int lastLetter(int n) {
            return letterBits[n] & 7;
        }

        boolean hasLettersOf(int n, Growth other, int o) {
            return depth[n] == other.depth[o] && letterBits[n] == other.letterBits[o];
        }

        int chanceBits(int n) {
            return Bits.ofFloat((float) chance[n] / (float) WHOLE);
        }
    }

    /** What has grown, cut off at the splits that a width has words for, and numbered by letters. */
    private static final class Tree {
        final Growth grown;
        /** How many splits are told in the rows below; 0: none yet. */
        int splits = 0;
        /** How many nodes, and leaves, begin with a node, itself too. */
        final int[] nodesFrom = new int[MOST_NODES];
        final int[] leavesFrom = new int[MOST_NODES];
        final int[] number = new int[MOST_NODES];
        /** The least word that begins with a node; of a leaf its own. */
        final int[] firstWord = new int[MOST_NODES];
        /** Nodes by number, leaves by word. */
        final int[] order = new int[MOST_NODES];
        final int[] leafOf = new int[MOST_LEAVES];
        int longest = 0;
        /** Over WHOLE: chance times letters of all leaves; chance of those that end in each state. */
        long lengthSum = 0;
        final long[] endSums = new long[MOST_STATES];

        Tree(int start) {
            grown = new Growth(start);
        }

        void fell() {
            grown.splits = 0;
            splits = 0;
        }

        /** Only when as many splits have grown. */
        void tellBy(int wanted, Setting s) {
            splits = wanted;
            countFrom();
            tellNumbers();
            addUp(s);
        }

        boolean isLeaf(int n) {
            return grown.splitOf[n] >= splits;
        }

        /** From the last split back, so that what goes on with a node is counted ahead of it. */
        private void countFrom() {
            int nodes = 1 + splits * grown.m;
            for (int n = 0; n < nodes; n++) {
                nodesFrom[n] = 1;
                leavesFrom[n] = isLeaf(n) ? 1 : 0;
            }
            for (int k = splits - 1; k >= 0; k--) {
                int n = grown.nodeSplit[k];
                for (int l = 0; l < grown.m; l++) {
                    int child = grown.childOf(n, l);
                    nodesFrom[n] += nodesFrom[child];
                    leavesFrom[n] += leavesFrom[child];
                }
            }
        }

        private void tellNumbers() {
            number[ROOT] = 0;
            firstWord[ROOT] = 0;
            for (int k = 0; k < splits; k++) {
                int n = grown.nodeSplit[k];
                int nextNumber = number[n] + 1;
                int nextWord = firstWord[n];
                for (int l = 0; l < grown.m; l++) {
                    int child = grown.childOf(n, l);
                    number[child] = nextNumber;
                    firstWord[child] = nextWord;
                    nextNumber += nodesFrom[child];
                    nextWord += leavesFrom[child];
                }
            }
        }

        private void addUp(Setting s) {
            longest = 0;
            lengthSum = 0;
            for (int q = 0; q < MOST_STATES; q++) {
                endSums[q] = 0;
            }
            int nodes = 1 + splits * grown.m;
            for (int n = 0; n < nodes; n++) {
                order[number[n]] = n;
                if (isLeaf(n)) {
                    leafOf[firstWord[n]] = n;
                    longest = Math.max(longest, grown.depth[n]);
                    lengthSum += grown.chance[n] * grown.depth[n];
                    endSums[s.behind(grown.lastLetter(n))] += grown.chance[n];
                }
            }
        }
    }

    /** A row of nodes as they were when they came; a size of LOST: there is no row. */
    private static final class Crate {
        static final int LOST = -1, NOTHING = -1;
        static final int ANY = 0, LEAVES_ALONE = 1, SPLIT_ALONE = 2;

        int form = ANY;
        int size = LOST;
        /** How many letters, or NOTHING. */
        final int[] depths = new int[MOST_PLACES];
        final boolean[] leaves = new boolean[MOST_PLACES];
        final int[] chances = new int[MOST_PLACES];

        boolean isLost() {
            return size == LOST;
        }

        void begin(int newForm, int n) {
            form = newForm;
            size = n;
            for (int i = 0; i < MOST_PLACES; i++) {
                depths[i] = NOTHING;
            }
        }

        boolean hasNothing(int i) {
            return depths[i] == NOTHING;
        }

        boolean isFor(boolean leaf) {
            return form == ANY || leaf == (form == LEAVES_ALONE);
        }

        boolean isForPlace(Crate other, int i) {
            return other.hasNothing(i) || isFor(other.leaves[i]);
        }

        void place(int i, int depth, boolean leaf, int chance) {
            depths[i] = depth;
            leaves[i] = leaf;
            chances[i] = chance;
        }

        void copyPlace(int i, Crate other, int j) {
            place(i, other.depths[j], other.leaves[j], other.chances[j]);
        }

        int told(int i, int what) {
            switch (what) {
                case 0:
                    return depths[i];
                case 1:
                    return leaves[i] ? 1 : 0;
                default:
                    return chances[i];
            }
        }
    }

    /** A row of bytes; a size of LOST: there is no row. */
    private static final class Sheet {
        static final int LOST = -1;

        int size = LOST;
        final byte[] bytes = new byte[MOST_BYTES];

        boolean isLost() {
            return size == LOST;
        }

        void begin(int n) {
            size = n;
            for (int i = 0; i < MOST_BYTES; i++) {
                bytes[i] = 0;
            }
        }
    }

    /**
     * The bits of numbers above 0 that are neither tiny nor endless, as floatToIntBits and
     * doubleToLongBits tell them; the language rules leave those two out.
     */
    private static final class Bits {
        /** Told as a double, a float has 29 more digits, all 0, and 896 more in its exponent. */
        static int ofFloat(float value) {
            return (int) ((ofDouble((double) value) >> 29) - (896L << 23));
        }

        static long ofDouble(double value) {
            double digits = value;
            long exponent = 1023;
            for (int k = 0; k < 1023 && digits >= 2.0; k++) {
                digits /= 2.0;
                exponent++;
            }
            for (int k = 0; k < 1022 && digits < 1.0; k++) {
                digits *= 2.0;
                exponent--;
            }
            return (exponent << 52) + (long) ((digits - 1.0) * 4503599627370496.0);
        }
    }
}
