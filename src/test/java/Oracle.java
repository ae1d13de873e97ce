import java.math.BigInteger;
import java.util.ArrayList;
import java.util.Arrays;
import java.util.List;
import java.util.TreeSet;

/**
 * The document once more, as plainly as the whole Java library allows: rows of letters are texts,
 * fractions are BigIntegers, crates are real arrays and findings what the machine throws. It
 * shares no code and no way of counting with PhraseTrees, so that the two can be held against
 * each other.
 */
public final class Oracle {
    private static final int NONE = -1, BAD = -2, NOT = -3, FULL = -4, OVER = -5;
    private static final BigInteger SIXTEEN = BigInteger.valueOf(16);

    private int m = 3, q = 1, width = 3;
    private int[][] weights = evenWeights(3, 1);
    private List<Integer> text = new ArrayList<>();
    private final List<Integer> code = new ArrayList<>();
    private int rest = 0, finding = 0;
    private final Kept[] slots = new Kept[4];
    private final Node[][] crates = new Node[4][];
    private final byte[][] sheets = new byte[2][];
    private Tree[] trees = null;

    private record Kept(int m, int q, int width, int[][] weights) { }

    private static class Node {
        final int size, bits;

        Node(int size, int bits) {
            this.size = size;
            this.bits = bits;
        }
    }

    private static final class Leaf extends Node {
        Leaf(int size, int bits) {
            super(size, bits);
        }
    }

    private static final class Inner extends Node {
        Inner(int size, int bits) {
            super(size, bits);
        }
    }

    private static int[][] evenWeights(int m, int q) {
        int[][] w = new int[q][m];
        for (int[] row : w) {
            Arrays.fill(row, 16 / m);
            row[m - 1] = 16 - (m - 1) * (16 / m);
        }
        return w;
    }

    private record Fraction(BigInteger above, BigInteger below) implements Comparable<Fraction> {
        Fraction {
            BigInteger g = above.gcd(below);
            above = above.divide(g);
            below = below.divide(g);
        }

        static Fraction of(long n) {
            return new Fraction(BigInteger.valueOf(n), BigInteger.ONE);
        }

        Fraction times(Fraction o) {
            return new Fraction(above.multiply(o.above), below.multiply(o.below));
        }

        Fraction plus(Fraction o) {
            return new Fraction(above.multiply(o.below).add(o.above.multiply(below)), below.multiply(o.below));
        }

        public int compareTo(Fraction o) {
            return above.multiply(o.below).compareTo(o.above.multiply(below));
        }

        double asDouble() {
            return new java.math.BigDecimal(above).divide(new java.math.BigDecimal(below)).doubleValue();
        }

        float asFloat() {
            return new java.math.BigDecimal(above).divide(new java.math.BigDecimal(below)).floatValue();
        }
    }

    private int behind(String letters, int start) {
        return letters.isEmpty() ? start : (letters.charAt(letters.length() - 1) - '0') % q;
    }

    private Fraction chanceOf(String letters, int start) {
        Fraction f = Fraction.of(1);
        for (int i = 0; i < letters.length(); i++) {
            int w = weights[behind(letters.substring(0, i), start)][letters.charAt(i) - '0'];
            f = f.times(new Fraction(BigInteger.valueOf(w), SIXTEEN));
        }
        return f;
    }

    private final class Tree {
        final int start;
        final TreeSet<String> leafSet = new TreeSet<>();
        final List<String> nodes;
        final List<String> leaves;

        Tree(int start, int bits) {
            this.start = start;
            TreeSet<String> all = new TreeSet<>();
            all.add("");
            leafSet.add("");
            split("", all);
            while (leafSet.size() + m - 1 <= 1 << bits) {
                String next = null;
                for (String leaf : leafSet) {
                    if (leaf.length() < 8 && (next == null || isAhead(leaf, next))) {
                        next = leaf;
                    }
                }
                if (next == null) {
                    break;
                }
                split(next, all);
            }
            nodes = new ArrayList<>(all);
            leaves = new ArrayList<>(leafSet);
        }

        private boolean isAhead(String a, String b) {
            int by = chanceOf(a, start).compareTo(chanceOf(b, start));
            return by != 0 ? by > 0 : a.length() != b.length() ? a.length() < b.length() : a.compareTo(b) < 0;
        }

        private void split(String leaf, TreeSet<String> all) {
            leafSet.remove(leaf);
            for (int l = 0; l < m; l++) {
                leafSet.add(leaf + l);
                all.add(leaf + l);
            }
        }

        Fraction expected() {
            Fraction sum = Fraction.of(0);
            for (String leaf : leaves) {
                sum = sum.plus(chanceOf(leaf, start).times(Fraction.of(leaf.length())));
            }
            return sum;
        }

        Fraction endingIn(int state) {
            Fraction sum = Fraction.of(0);
            for (String leaf : leaves) {
                if (behind(leaf, start) == state) {
                    sum = sum.plus(chanceOf(leaf, start));
                }
            }
            return sum;
        }
    }

    private Tree[] treesBy(int bits) {
        Tree[] made = new Tree[q];
        for (int s = 0; s < q; s++) {
            made[s] = new Tree(s, bits);
        }
        return made;
    }

    private Tree[] now() {
        if (trees == null) {
            trees = treesBy(width);
        }
        return trees;
    }

    private static long refusal(int x) {
        return Long.MIN_VALUE - x;
    }

    private int finding(int number) {
        finding = number;
        return -10 - number;
    }

    private static boolean in(int x, int least, int most) {
        return x >= least && x <= most;
    }

    private void emptyCode() {
        code.clear();
        rest = 0;
    }

    private int allLeaves() {
        int sum = 0;
        for (Tree t : now()) {
            sum += t.leaves.size();
        }
        return sum;
    }

    public int letters(int newM, int newQ) {
        if (!in(newM, 2, 5) || !in(newQ, 1, 3)) {
            return BAD;
        }
        if (1 << width < newM) {
            return NOT;
        }
        m = newM;
        q = newQ;
        weights = evenWeights(m, q);
        trees = null;
        text.clear();
        emptyCode();
        return allLeaves();
    }

    public int width(int b) {
        if (!in(b, 1, 6)) {
            return BAD;
        }
        if (1 << b < m) {
            return NOT;
        }
        int was = width;
        width = b;
        trees = null;
        emptyCode();
        return was;
    }

    public int weight(int s, int l, int v) {
        if (!in(s, 0, q - 1) || !in(l, 0, m - 2) || !in(v, 1, 15)) {
            return BAD;
        }
        int others = v;
        for (int k = 0; k < m - 1; k++) {
            others += k == l ? 0 : weights[s][k];
        }
        if (others >= 16) {
            return NOT;
        }
        int was = weights[s][l];
        weights[s][l] = v;
        weights[s][m - 1] = 16 - others;
        trees = null;
        emptyCode();
        return was;
    }

    public int tree(int s, int what) {
        if (!in(s, 0, q - 1) || !in(what, 0, 7)) {
            return BAD;
        }
        Tree t = now()[s];
        return switch (what) {
            case 0 -> t.leaves.size();
            case 1 -> t.nodes.size();
            case 2 -> t.leaves.stream().mapToInt(String::length).max().orElse(0);
            default -> what - 3 < m ? weights[s][what - 3] : 0;
        };
    }

    private boolean isNode(int s, int i) {
        return in(s, 0, q - 1) && in(i, 0, now()[s].nodes.size() - 1);
    }

    public int node(int s, int i, int what) {
        if (!isNode(s, i) || !in(what, 0, 10)) {
            return Integer.MIN_VALUE;
        }
        Tree t = now()[s];
        String n = t.nodes.get(i);
        if (what == 0) {
            return n.length();
        }
        if (what == 1) {
            return t.leaves.indexOf(n);
        }
        if (what == 10) {
            return (int) t.nodes.stream().filter(x -> x.startsWith(n) && !x.equals(n)).count();
        }
        return what - 2 < n.length() ? n.charAt(what - 2) - '0' : NONE;
    }

    public long chance(int s, int i, int what) {
        if (!isNode(s, i) || !in(what, 0, 1)) {
            return refusal(BAD);
        }
        Fraction f = chanceOf(now()[s].nodes.get(i), s);
        return (what == 0 ? f.above : f.below).longValueExact();
    }

    public int bits(int s, int i) {
        return isNode(s, i) ? Float.floatToIntBits(chanceOf(now()[s].nodes.get(i), s).asFloat()) : 0;
    }

    public long expected(int s, int what) {
        if (!in(s, 0, q - 1) || !in(what, 0, 3)) {
            return refusal(BAD);
        }
        Fraction f = now()[s].expected();
        return switch (what) {
            case 0 -> f.above.longValueExact();
            case 1 -> f.below.longValueExact();
            case 2 -> Float.floatToIntBits(f.asFloat());
            default -> Float.floatToIntBits(f.asFloat() / width);
        };
    }

    public long longRun() {
        double[] p = new double[q];
        p[0] = 1.0;
        double[][] ends = new double[q][q];
        for (int from = 0; from < q; from++) {
            for (int to = 0; to < q; to++) {
                ends[from][to] = now()[from].endingIn(to).asDouble();
            }
        }
        for (int turn = 0; turn < 64; turn++) {
            double[] next = new double[q];
            for (int to = 0; to < q; to++) {
                for (int from = 0; from < q; from++) {
                    next[to] += p[from] * ends[from][to];
                }
            }
            p = next;
        }
        double sum = 0.0;
        for (int s = 0; s < q; s++) {
            sum += p[s] * now()[s].expected().asDouble();
        }
        return Double.doubleToLongBits(sum);
    }

    public int type(int l) {
        if (!in(l, 0, m - 1)) {
            return BAD;
        }
        if (text.size() == 80) {
            return FULL;
        }
        text.add(l);
        return text.size();
    }

    public int wipe() {
        int was = text.size();
        text.clear();
        return was;
    }

    public int letter(int k) {
        return in(k, 0, text.size() - 1) ? text.get(k) : BAD;
    }

    public int read(int s) {
        if (!in(s, 0, 1)) {
            return BAD;
        }
        if (sheets[s] == null) {
            return finding(1);
        }
        text.clear();
        for (byte b : sheets[s]) {
            if (!in(b, 0, m - 1)) {
                break;
            }
            text.add((int) b);
        }
        return text.size();
    }

    private record Words(List<Integer> words, int rest) { }

    private Words toldInWords(Tree[] by) {
        StringBuilder all = new StringBuilder();
        for (int l : text) {
            all.append(l);
        }
        String remaining = all.toString();
        List<Integer> words = new ArrayList<>();
        int state = 0;
        while (!remaining.isEmpty()) {
            List<String> leaves = by[state].leaves;
            int word = -1;
            for (int i = 0; i < leaves.size(); i++) {
                if (remaining.startsWith(leaves.get(i))) {
                    word = i;
                }
            }
            if (word < 0) {
                int least = 0;
                while (!leaves.get(least).startsWith(remaining)) {
                    least++;
                }
                words.add(least);
                return new Words(words, remaining.length());
            }
            words.add(word);
            remaining = remaining.substring(leaves.get(word).length());
            state = behind(leaves.get(word), state);
        }
        return new Words(words, 0);
    }

    public int encode() {
        Words told = toldInWords(now());
        code.clear();
        code.addAll(told.words);
        rest = told.rest;
        return code.size();
    }

    private List<String> phrases(List<Integer> words) {
        List<String> phrases = new ArrayList<>();
        int state = 0;
        for (int word : words) {
            if (word >= now()[state].leaves.size()) {
                break;
            }
            String leaf = now()[state].leaves.get(word);
            phrases.add(leaf);
            state = behind(leaf, state);
        }
        return phrases;
    }

    public int fault() {
        List<String> phrases = phrases(code);
        if (phrases.size() < code.size()) {
            return phrases.size();
        }
        int most = phrases.isEmpty() ? 0 : phrases.get(phrases.size() - 1).length();
        return rest > most ? code.size() : NONE;
    }

    public int decode() {
        if (fault() != NONE) {
            return -1000 - fault();
        }
        List<String> phrases = phrases(code);
        if (rest != 0) {
            phrases.set(phrases.size() - 1, phrases.get(phrases.size() - 1).substring(0, rest));
        }
        String all = String.join("", phrases);
        if (all.length() > 80) {
            return FULL;
        }
        text = new ArrayList<>();
        for (char c : all.toCharArray()) {
            text.add(c - '0');
        }
        return text.size();
    }

    public int code(int k) {
        return in(k, 0, code.size() - 1) ? code.get(k) : BAD;
    }

    public int put(int k, int v) {
        if (!in(k, 0, code.size()) || !in(v, 0, 63)) {
            return BAD;
        }
        if (k == 80) {
            return FULL;
        }
        if (k == code.size()) {
            code.add(v);
        } else {
            code.set(k, v);
        }
        return code.size();
    }

    public int rest(int r) {
        if (!in(r, 0, 8)) {
            return BAD;
        }
        int was = rest;
        rest = r;
        return was;
    }

    public int harm(int k, int v) {
        if (!in(k, 0, code.size() - 1) || !in(v, 0, 63)) {
            return BAD;
        }
        if (fault() != NONE) {
            return NOT;
        }
        List<Integer> altered = new ArrayList<>(code);
        altered.set(k, v);
        List<String> was = phrases(code);
        List<String> is = phrases(altered);
        int harmed = 0;
        for (int j = 0; j < was.size(); j++) {
            harmed += j < is.size() && is.get(j).equals(was.get(j)) ? 0 : 1;
        }
        return harmed;
    }

    public int best(int what) {
        if (!in(what, 0, 1)) {
            return BAD;
        }
        int found = 0;
        int fewest = Integer.MAX_VALUE;
        for (int b = 6; b >= 1; b--) {
            if (1 << b >= m) {
                int bits = toldInWords(treesBy(b)).words.size() * b;
                if (bits <= fewest) {
                    fewest = bits;
                    found = b;
                }
            }
        }
        return what == 0 ? found : fewest;
    }

    public long likely(int what) {
        if (!in(what, 0, 1)) {
            return refusal(BAD);
        }
        BigInteger most = BigInteger.valueOf(Long.MAX_VALUE);
        Fraction f = Fraction.of(1);
        int state = 0;
        for (int l : text) {
            BigInteger above = f.above.multiply(BigInteger.valueOf(weights[state][l]));
            BigInteger below = f.below.multiply(SIXTEEN);
            if (above.compareTo(most) > 0 || below.compareTo(most) > 0) {
                return refusal(OVER);
            }
            f = new Fraction(above, below);
            state = l % q;
        }
        return (what == 0 ? f.above : f.below).longValueExact();
    }

    private int fullSlots() {
        return (int) Arrays.stream(slots).filter(k -> k != null).count();
    }

    private static int[][] copyOf(int[][] w) {
        return Arrays.stream(w).map(int[]::clone).toArray(int[][]::new);
    }

    public int keep(int s) {
        if (!in(s, 0, 3)) {
            return BAD;
        }
        slots[s] = new Kept(m, q, width, copyOf(weights));
        return fullSlots();
    }

    public int take(int s) {
        if (!in(s, 0, 3)) {
            return BAD;
        }
        if (slots[s] == null) {
            return finding(1);
        }
        m = slots[s].m;
        q = slots[s].q;
        width = slots[s].width;
        weights = copyOf(slots[s].weights);
        trees = null;
        text.clear();
        emptyCode();
        return allLeaves();
    }

    public int drop(int s) {
        if (!in(s, 0, 3)) {
            return BAD;
        }
        if (slots[s] == null) {
            return finding(1);
        }
        slots[s] = null;
        return fullSlots();
    }

    public int crate(int c, int form, int n) {
        if (!in(c, 0, 3) || !in(form, 0, 2) || n > 20) {
            return BAD;
        }
        try {
            crates[c] = form == 0 ? new Node[n] : form == 1 ? new Leaf[n] : new Inner[n];
            return n;
        } catch (NegativeArraySizeException e) {
            return finding(4);
        }
    }

    public int lose(int c) {
        if (!in(c, 0, 3)) {
            return BAD;
        }
        if (crates[c] == null) {
            return finding(1);
        }
        int was = crates[c].length;
        crates[c] = null;
        return was;
    }

    public int hold(int c, int i, int s, int j) {
        if (!in(c, 0, 3) || !isNode(s, j)) {
            return BAD;
        }
        String n = now()[s].nodes.get(j);
        boolean leaf = now()[s].leaves.contains(n);
        Node node = leaf ? new Leaf(n.length(), bits(s, j)) : new Inner(n.length(), bits(s, j));
        try {
            crates[c][i] = node;
            return 1;
        } catch (NullPointerException e) {
            return finding(1);
        } catch (ArrayIndexOutOfBoundsException e) {
            return finding(2);
        } catch (ArrayStoreException e) {
            return finding(3);
        }
    }

    public int held(int c, int i, int what) {
        if (!in(c, 0, 3) || !in(what, 0, 2)) {
            return BAD;
        }
        try {
            Node n = crates[c][i];
            return what == 0 ? n.size : what == 2 ? n.bits : n.size >= 0 && n instanceof Leaf ? 1 : 0;
        } catch (NullPointerException e) {
            return finding(1);
        } catch (ArrayIndexOutOfBoundsException e) {
            return finding(2);
        }
    }

    public int move(int c, int i, int d, int j, int n) {
        if (!in(c, 0, 3) || !in(d, 0, 3)) {
            return BAD;
        }
        try {
            System.arraycopy(crates[c], i, crates[d], j, n);
            return n;
        } catch (NullPointerException e) {
            return finding(1);
        } catch (IndexOutOfBoundsException e) {
            return finding(2);
        } catch (ArrayStoreException e) {
            return finding(3);
        }
    }

    public int sheet(int s, int n) {
        if (!in(s, 0, 1) || n > 80) {
            return BAD;
        }
        try {
            sheets[s] = new byte[n];
            return n;
        } catch (NegativeArraySizeException e) {
            return finding(4);
        }
    }

    public int lay(int s, int i, int v) {
        if (!in(s, 0, 1)) {
            return BAD;
        }
        try {
            sheets[s][i] = (byte) v;
            return 1;
        } catch (NullPointerException e) {
            return finding(1);
        } catch (ArrayIndexOutOfBoundsException e) {
            return finding(2);
        }
    }

    public int get(int s, int i) {
        if (!in(s, 0, 1)) {
            return Integer.MIN_VALUE;
        }
        try {
            return sheets[s][i];
        } catch (NullPointerException e) {
            finding(1);
        } catch (ArrayIndexOutOfBoundsException e) {
            finding(2);
        }
        return Integer.MIN_VALUE;
    }

    public int write(int s) {
        if (!in(s, 0, 1)) {
            return BAD;
        }
        if (sheets[s] == null) {
            return finding(1);
        }
        int n = 0;
        while (n < sheets[s].length && n < code.size()) {
            sheets[s][n] = code.get(n).byteValue();
            n++;
        }
        return n;
    }

    public int count(int what) {
        return switch (what) {
            case 0 -> m;
            case 1 -> q;
            case 2 -> width;
            case 3 -> text.size();
            case 4 -> code.size();
            case 5 -> rest;
            case 6 -> allLeaves();
            case 7 -> (int) Arrays.stream(crates).filter(c -> c != null).count();
            case 8 -> finding;
            default -> BAD;
        };
    }

    public long digest() {
        List<Long> told = new ArrayList<>();
        for (int w = 0; w <= 7; w++) {
            told.add((long) count(w));
        }
        for (int s = 0; s < q; s++) {
            for (int w = 0; w <= 7; w++) {
                told.add((long) tree(s, w));
            }
            for (int w = 0; w <= 3; w++) {
                told.add(expected(s, w));
            }
            for (int i = 0; i < now()[s].nodes.size(); i++) {
                for (int w = 0; w <= 10; w++) {
                    told.add((long) node(s, i, w));
                }
                told.add(chance(s, i, 0));
                told.add(chance(s, i, 1));
                told.add((long) bits(s, i));
            }
        }
        told.add(longRun());
        text.forEach(l -> told.add((long) l));
        code.forEach(w -> told.add((long) w));
        told.addAll(List.of((long) fault(), (long) best(0), (long) best(1), likely(0), likely(1)));
        int before = finding;
        for (int c = 0; c < 4; c++) {
            for (int i = 0; crates[c] != null && i < crates[c].length; i++) {
                for (int w = 0; w <= 2; w++) {
                    told.add((long) held(c, i, w));
                }
            }
        }
        finding = before;
        long h = 17;
        for (long x : told) {
            h = 31 * h + x;
        }
        return h;
    }
}
