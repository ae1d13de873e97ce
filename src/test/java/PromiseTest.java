/**
 * The document's promises one by one, with answers worked out by hand: ordinary inputs, the edges
 * that the document names, wrong inputs, and the order of refusals.
 */
public final class PromiseTest {
    private static final int LEAST = Integer.MIN_VALUE, MOST = Integer.MAX_VALUE;
    private static final int NONE = -1, BAD = -2, NOT = -3, FULL = -4;
    private static final int NULL = -11, INDEX = -12, STORE = -13, SIZE = -14;
    private static final long BAD_LONG = Long.MIN_VALUE + 2, OVER_LONG = Long.MIN_VALUE + 5;
    private static int calls = 0, wrong = 0;

    private static void due(String what, long got, long want) {
        calls++;
        if (got != want) {
            wrong++;
            System.out.println(what + " answered " + got + ", due is " + want);
        }
    }

    /** All of a row, each with its place. */
    private static void due(String what, int[] got, int... want) {
        due(what + ", how many", got.length, want.length);
        for (int k = 0; k < Math.min(got.length, want.length); k++) {
            due(what + " [" + k + "]", got[k], want[k]);
        }
    }

    /** A call that answers a FINDING, which count() 8 must tell then, whatever it told ahead of it. */
    private static void finds(String what, PhraseTrees x, java.util.function.IntSupplier call, int want) {
        due(what + ", another finding first", want == SIZE ? x.drop(3) : x.sheet(0, -1), want == SIZE ? NULL : SIZE);
        due(what, call.getAsInt(), want);
        due(what + ", count() 8", x.count(8), -10 - want);
    }

    private static void findings() {
        PhraseTrees x = new PhraseTrees();
        finds("14: lost", x, () -> x.read(0), NULL);
        finds("25: empty", x, () -> x.take(0), NULL);
        finds("26: empty", x, () -> x.drop(0), NULL);
        finds("27: size", x, () -> x.crate(0, 0, -1), SIZE);
        finds("28: lost", x, () -> x.lose(0), NULL);
        finds("29: lost", x, () -> x.hold(0, 0, 0, 0), NULL);
        finds("30: lost", x, () -> x.held(0, 0, 0), NULL);
        finds("31: c is lost", x, () -> x.move(0, 0, 1, 0, 0), NULL);
        finds("32: size", x, () -> x.sheet(0, -1), SIZE);
        finds("33: lost", x, () -> x.lay(0, 0, 0), NULL);
        finds("35: lost", x, () -> x.write(0), NULL);
        x.crate(0, 0, 2);
        x.crate(1, 2, 2);
        x.sheet(0, 1);
        x.hold(0, 0, 0, 2);
        finds("29: index", x, () -> x.hold(0, 2, 0, 0), INDEX);
        finds("29: store", x, () -> x.hold(1, 0, 0, 2), STORE);
        finds("30: index", x, () -> x.held(0, 2, 0), INDEX);
        finds("30: nothing", x, () -> x.held(0, 1, 0), NULL);
        finds("31: d is lost", x, () -> x.move(0, 0, 2, 0, 0), NULL);
        finds("31: index", x, () -> x.move(0, 0, 1, 0, 3), INDEX);
        finds("31: store", x, () -> x.move(0, 0, 1, 0, 1), STORE);
        finds("33: index", x, () -> x.lay(0, 1, 0), INDEX);
    }

    private static PhraseTrees of(int m, int q, int width) {
        PhraseTrees x = new PhraseTrees();
        x.width(6);
        x.letters(m, q);
        x.width(width);
        return x;
    }

    private static void typeAll(PhraseTrees x, int... text) {
        for (int l : text) {
            x.type(l);
        }
    }

    private static void putAll(PhraseTrees x, int... words) {
        for (int v : words) {
            x.put(x.count(4), v);
        }
    }

    private static int[] text(PhraseTrees x) {
        int[] all = new int[x.count(3)];
        for (int k = 0; k < all.length; k++) {
            all[k] = x.letter(k);
        }
        return all;
    }

    private static int[] code(PhraseTrees x) {
        int[] all = new int[x.count(4)];
        for (int k = 0; k < all.length; k++) {
            all[k] = x.code(k);
        }
        return all;
    }

    /** Letters of a node as one number behind a leading 1. */
    private static int letters(PhraseTrees x, int q, int i) {
        int all = 1;
        for (int what = 2; what <= 9 && x.node(q, i, what) != NONE; what++) {
            all = 10 * all + x.node(q, i, what);
        }
        return all;
    }

    private static void newObject() {
        PhraseTrees x = new PhraseTrees();
        int[] want = {3, 1, 3, 0, 0, 0, 7, 0, 0};
        for (int what = 0; what <= 8; what++) {
            due("1: count(" + what + ")", x.count(what), want[what]);
        }
        for (int c = 0; c < 4; c++) {
            due("1: crate is lost", x.lose(c), NULL);
            due("1: slot is empty", x.drop(c), NULL);
        }
        due("1: sheet 0 is lost", x.write(0), NULL);
        due("1: sheet 1 is lost", x.write(1), NULL);
        due("1: weights", new int[] {x.tree(0, 3), x.tree(0, 4), x.tree(0, 5)}, 5, 5, 6);
        due("1: NONE", PhraseTrees.NONE, -1);
        due("1: BAD", PhraseTrees.BAD, -2);
        due("1: NOT", PhraseTrees.NOT, -3);
        due("1: FULL", PhraseTrees.FULL, -4);
        due("1: OVER", PhraseTrees.OVER, -5);
    }

    private static void lettersTold() {
        PhraseTrees x = new PhraseTrees();
        typeAll(x, 0, 1, 2);
        x.encode();
        x.rest(1);
        x.weight(0, 0, 9);
        due("2: bad m below", x.letters(1, 1), BAD);
        due("2: bad m above", x.letters(6, 1), BAD);
        due("2: bad q below", x.letters(3, 0), BAD);
        due("2: bad q above", x.letters(3, 4), BAD);
        due("2: refused, the text stays", x.count(3), 3);
        due("2: refused, weights stay", x.tree(0, 3), 9);
        x.encode();
        x.rest(1);
        due("2: the same again", x.letters(3, 1), 7);
        due("2: weights are as at first", new int[] {x.tree(0, 3), x.tree(0, 4), x.tree(0, 5)}, 5, 5, 6);
        due("2: emptied", new int[] {x.count(3), x.count(4), x.count(5)}, 0, 0, 0);
        due("2: all trees' leaves", x.letters(4, 3), 21);
        due("2: M", x.count(0), 4);
        due("2: Q", x.count(1), 3);
        due("2: width stays", x.count(2), 3);
        x.width(2);
        due("2: fewer words than letters", x.letters(5, 1), NOT);
        due("2: bad ahead of not", x.letters(5, 4), BAD);
        due("2: as many words as letters", x.letters(4, 2), 8);
        due("2: five letters' weights", x.width(3) + x.letters(5, 2), 2 + 10);
        due("2: last has what is left", new int[] {x.tree(1, 3), x.tree(1, 6), x.tree(1, 7)}, 3, 3, 4);
    }

    private static void widthTold() {
        PhraseTrees x = new PhraseTrees();
        typeAll(x, 0, 1, 2);
        x.encode();
        due("3: rest is there", x.count(5), 1);
        due("3: bad", x.width(0) + x.width(7) + x.width(LEAST) + x.width(MOST), 4 * BAD);
        due("3: two words for three letters", x.width(1), NOT);
        due("3: refused, the code stays", x.count(4), 2);
        due("3: what it was", x.width(3), 3);
        due("3: the code is empty, no rest", x.count(4) + x.count(5), 0);
        due("3: the text stays", x.count(3), 3);
        due("3: to the most", x.width(6), 3);
        due("3: as many leaves as go into 64", x.tree(0, 0), 63);
        due("3: back", x.width(2), 6);
        due("3: the root alone is split", x.tree(0, 0), 3);
        x.letters(2, 1);
        due("3: two letters by one bit", x.width(1), 2);
        PhraseTrees y = new PhraseTrees();
        y.width(2);
        due("3: at once on a new object", y.tree(0, 2), 1);
        due("3: its words", new int[] {y.node(0, 1, 1), y.node(0, 2, 1), y.node(0, 3, 1)}, 0, 1, 2);
    }

    private static void weightTold() {
        PhraseTrees x = of(3, 2, 3);
        typeAll(x, 0, 1, 2);
        x.encode();
        due("4: bad state", x.weight(-1, 0, 5) + x.weight(2, 0, 5), 2 * BAD);
        due("4: bad letter, the last too", x.weight(0, -1, 5) + x.weight(0, 2, 5) + x.weight(0, 3, 5), 3 * BAD);
        due("4: bad weight", x.weight(0, 0, 0) + x.weight(0, 0, 16) + x.weight(0, 0, LEAST), 3 * BAD);
        due("4: bad ahead of not", x.weight(0, 0, 16), BAD);
        due("4: nothing left for the last", x.weight(0, 0, 11), NOT);
        due("4: refused, the code stays", 10 * x.count(4) + x.count(5), 21);
        due("4: 1 left for the last", x.weight(0, 0, 10), 5);
        due("4: weights of the state", new int[] {x.tree(0, 3), x.tree(0, 4), x.tree(0, 5)}, 10, 5, 1);
        due("4: not of the other", new int[] {x.tree(1, 3), x.tree(1, 4), x.tree(1, 5)}, 5, 5, 6);
        due("4: emptied, but the text", new int[] {x.count(3), x.count(4), x.count(5)}, 3, 0, 0);
        due("4: what it was", x.weight(0, 0, 1), 10);
        due("4: the last has the rest", x.tree(0, 5), 10);
        // a tree hangs on the weights of every state that its letters come to
        PhraseTrees y = of(2, 2, 2);
        y.weight(0, 0, 2);
        due("4: in tree 0 letter 1 is split", letters(y, 0, 2), 11);
        y.weight(1, 0, 1);
        due("4: then 11 is", y.node(0, 4, 10), 2);
    }

    private static void treeTold() {
        PhraseTrees x = new PhraseTrees();
        int[] want = {7, 10, 2, 5, 5, 6, 0, 0};
        for (int what = 0; what <= 7; what++) {
            due("5: tree(0, " + what + ")", x.tree(0, what), want[what]);
        }
        due("5: bad state", x.tree(1, 0) + x.tree(-1, 0), 2 * BAD);
        due("5: bad what", x.tree(0, 8) + x.tree(0, -1), 2 * BAD);
        PhraseTrees y = of(2, 1, 6);
        y.weight(0, 0, 15);
        due("5: those with 8 letters are not split", y.tree(0, 2), 8);
        due("5: yet all words are used", y.tree(0, 0), 64);
        due("5: and nodes are", y.tree(0, 1), 127);
        PhraseTrees z = of(5, 3, 6);
        due("5: five letters", z.tree(2, 0), 61);
        due("5: nodes of five letters", z.tree(2, 1), 76);
        z.letters(3, 1);
        due("5: letters that are no more", z.tree(0, 6) + z.tree(0, 7), 0);
    }

    private static void nodeTold() {
        PhraseTrees x = new PhraseTrees();
        int[] rows = {1, 10, 100, 101, 102, 11, 12, 120, 121, 122};
        int[] words = {NONE, NONE, 0, 1, 2, 3, NONE, 4, 5, 6};
        int[] more = {9, 3, 0, 0, 0, 0, 3, 0, 0, 0};
        for (int i = 0; i < 10; i++) {
            due("6: letters of node " + i, letters(x, 0, i), rows[i]);
            due("6: size of node " + i, x.node(0, i, 0), Integer.toString(rows[i]).length() - 1);
            due("6: word of node " + i, x.node(0, i, 1), words[i]);
            due("6: what goes on with node " + i, x.node(0, i, 10), more[i]);
        }
        due("6: no letter more", x.node(0, 2, 4), NONE);
        due("6: no eighth letter", x.node(0, 2, 9), NONE);
        due("6: bad state", x.node(1, 0, 0), LEAST);
        due("6: bad node", x.node(0, 10, 0), LEAST);
        due("6: bad node below", x.node(0, -1, 0), LEAST);
        due("6: bad what", x.node(0, 0, 11), LEAST);
        due("6: bad what below", x.node(0, 0, -1), LEAST);
        PhraseTrees y = of(2, 1, 4);
        y.weight(0, 0, 15);
        due("6: eight letters", letters(y, 0, 8), 100000000);
        // of like leaves the one with fewest letters: 0 has 1/4 = 10 has 1/2 times 1/2 in state 1
        PhraseTrees z = of(3, 2, 3);
        z.weight(0, 0, 4);
        z.weight(0, 1, 8);
        z.weight(1, 0, 8);
        z.weight(1, 1, 4);
        due("6: of like ones the shorter is split", new int[] {letters(z, 0, 1), z.node(0, 1, 10)}, 10, 3);
        due("6: and not the longer", new int[] {letters(z, 0, 6), z.node(0, 6, 10)}, 110, 0);
        // of like ones of a length the first by letters
        PhraseTrees w = of(4, 1, 3);
        due("6: of like ones the first is split", w.node(0, 1, 10), 4);
        due("6: and no other", w.node(0, 6, 10) + w.node(0, 7, 10) + w.node(0, 8, 10), 0);
        w.width(5);
        due("6: 10 is the last that is split", new int[] {letters(w, 0, 23), w.node(0, 23, 10)}, 110, 4);
        due("6: 11 is not", new int[] {letters(w, 0, 28), w.node(0, 28, 10)}, 111, 0);
        // 0 has 1/2, then 00, 1 and 2 have 1/4
        PhraseTrees v = of(3, 1, 3);
        v.weight(0, 0, 8);
        v.weight(0, 1, 4);
        due("6: 1 is shorter than 00", new int[] {letters(v, 0, 5), v.node(0, 5, 10)}, 11, 3);
        due("6: 00 is not split", new int[] {letters(v, 0, 2), v.node(0, 2, 10)}, 100, 0);
    }

    private static void chanceTold() {
        PhraseTrees x = new PhraseTrees();
        due("7: the root", 10 * x.chance(0, 0, 0) + x.chance(0, 0, 1), 11);
        due("7: 5/16 above", x.chance(0, 1, 0), 5);
        due("7: 5/16 below", x.chance(0, 1, 1), 16);
        due("7: 30/256 above", x.chance(0, 4, 0), 15);
        due("7: 30/256 below", x.chance(0, 4, 1), 128);
        due("7: bad state", x.chance(1, 0, 0), BAD_LONG);
        due("7: bad node", x.chance(0, 10, 0), BAD_LONG);
        due("7: bad what", x.chance(0, 0, 2), BAD_LONG);
        due("7: bad what below", x.chance(0, 0, -1), BAD_LONG);
        PhraseTrees y = of(2, 1, 4);
        y.weight(0, 0, 15);
        due("7: 15 to the 8", y.chance(0, 8, 0), 2562890625L);
        due("7: 16 to the 8", y.chance(0, 8, 1), 4294967296L);
        PhraseTrees z = of(2, 2, 2);
        z.weight(0, 0, 3);
        z.weight(1, 0, 5);
        due("7: node 11 of tree 0", letters(z, 0, 4), 111);
        due("7: 13/16 by 11/16", z.chance(0, 4, 0), 143);
        due("7: from state 1 on", z.chance(1, 1, 0), 5);
    }

    private static void bitsTold() {
        PhraseTrees x = new PhraseTrees();
        due("8: the root", x.bits(0, 0), 0x3F800000);
        due("8: 5/16", x.bits(0, 1), Float.floatToIntBits(5f / 16f));
        due("8: 25/256", x.bits(0, 2), Float.floatToIntBits(25f / 256f));
        due("8: bad state", x.bits(1, 0) + x.bits(-1, 0), 0);
        due("8: bad node", x.bits(0, 10) + x.bits(0, -1), 0);
        PhraseTrees y = of(2, 1, 4);
        y.weight(0, 0, 15);
        due("8: rounded to a float", y.bits(0, 8), Float.floatToIntBits((float) (2562890625.0 / 4294967296.0)));
    }

    private static void expectedTold() {
        PhraseTrees x = new PhraseTrees();
        due("9: above", x.expected(0, 0), 27);
        due("9: below", x.expected(0, 1), 16);
        due("9: as a float", x.expected(0, 2), Float.floatToIntBits(1.6875f));
        due("9: by width", x.expected(0, 3), Float.floatToIntBits(0.5625f));
        due("9: bad", x.expected(1, 0), BAD_LONG);
        due("9: bad state below", x.expected(-1, 0), BAD_LONG);
        due("9: bad what", x.expected(0, 4), BAD_LONG);
        due("9: bad what below", x.expected(0, -1), BAD_LONG);
        x.width(2);
        due("9: letters alone, above", x.expected(0, 0), 1);
        due("9: letters alone, below", x.expected(0, 1), 1);
        due("9: 1 by 2", x.expected(0, 3), Float.floatToIntBits(0.5f));
        x.letters(2, 1);
        x.width(3);
        due("9: 3 by 3", x.expected(0, 3), Float.floatToIntBits(1f));
        x.width(6);
        due("9: 6", x.expected(0, 2), Float.floatToIntBits(6f));
    }

    /** For two states and two letters, by what chance() and expected() tell. */
    private static double longRun(PhraseTrees x, int turns) {
        double[][] ends = new double[2][2];
        double[] mean = new double[2];
        for (int q = 0; q < 2; q++) {
            mean[q] = (double) x.expected(q, 0) / x.expected(q, 1);
            for (int i = 0; i < x.tree(q, 1); i++) {
                if (x.node(q, i, 1) != NONE) {
                    int last = x.node(q, i, 1 + x.node(q, i, 0));
                    ends[q][last] += (double) x.chance(q, i, 0) / x.chance(q, i, 1);
                }
            }
        }
        double[] p = {1.0, 0.0};
        for (int turn = 0; turn < turns; turn++) {
            p = new double[] {p[0] * ends[0][0] + p[1] * ends[1][0], p[0] * ends[0][1] + p[1] * ends[1][1]};
        }
        return p[0] * mean[0] + p[1] * mean[1];
    }

    private static void longRunTold() {
        PhraseTrees x = new PhraseTrees();
        due("10: one state", x.longRun(), Double.doubleToLongBits(1.6875));
        x.width(2);
        due("10: of another width", x.longRun(), Double.doubleToLongBits(1.0));
        PhraseTrees y = of(2, 2, 1);
        y.weight(0, 0, 15);
        y.weight(1, 0, 2);
        due("10: all phrases have a letter", y.longRun(), Double.doubleToLongBits(1.0));
        // letters like to take turns, so that the shares still change in the last turn
        PhraseTrees z = of(2, 2, 2);
        z.weight(0, 0, 1);
        z.weight(1, 0, 14);
        due("10: 64 turns", z.longRun(), Double.doubleToLongBits(longRun(z, 64)));
        due("10: 63 would not do", longRun(z, 63) == longRun(z, 64) ? 1 : 0, 0);
        due("10: nor 65", longRun(z, 65) == longRun(z, 64) ? 1 : 0, 0);
        PhraseTrees w = of(2, 3, 1);
        due("10: a state that no letter leads to", w.longRun(), Double.doubleToLongBits(1.0));
    }

    private static void theText() {
        PhraseTrees x = new PhraseTrees();
        due("11: bad", x.type(-1) + x.type(3), 2 * BAD);
        due("12: nothing to wipe", x.wipe(), 0);
        due("13: no letter", x.letter(0), BAD);
        for (int k = 0; k < 80; k++) {
            due("11: how many", x.type(k % 3), k + 1);
        }
        due("11: full", x.type(0), FULL);
        due("11: bad ahead of full", x.type(3), BAD);
        due("13: the first", x.letter(0), 0);
        due("13: the last", x.letter(79), 1);
        due("13: bad", x.letter(80) + x.letter(-1) + x.letter(LEAST), 3 * BAD);
        x.encode();
        due("12: how many it had", x.wipe(), 80);
        due("12: it is empty", x.count(3), 0);
        due("12: the code stays", x.count(4) > 0 ? 1 : 0, 1);
        due("12: again", x.wipe(), 0);
        due("13: none behind it", x.letter(0), BAD);
    }

    private static void readTold() {
        PhraseTrees x = new PhraseTrees();
        typeAll(x, 1, 1);
        due("14: bad", x.read(2) + x.read(-1), 2 * BAD);
        due("14: lost", x.read(0), NULL);
        due("14: a finding", x.count(8), 1);
        due("14: the text stays", x.count(3), 2);
        x.sheet(0, 4);
        x.lay(0, 0, 2);
        x.lay(0, 1, 1);
        x.lay(0, 2, 3);
        due("14: as long as they are letters", x.read(0), 2);
        due("14: the letters", text(x), 2, 1);
        x.lay(0, 0, -1);
        due("14: none is", x.read(0), 0);
        due("14: the text is empty", x.count(3), 0);
        x.sheet(1, 80);
        due("14: eighty", x.read(1), 80);
        x.sheet(1, 0);
        due("14: no bytes", x.read(1), 0);
    }

    private static void encodeTold() {
        PhraseTrees x = new PhraseTrees();
        putAll(x, 1, 2, 3);
        x.rest(4);
        due("15: no text", x.encode(), 0);
        due("15: no rest", x.count(5), 0);
        typeAll(x, 1, 2, 2, 0, 0);
        due("15: whole phrases", x.encode(), 3);
        due("15: words", code(x), 3, 6, 0);
        due("15: rest 0", x.count(5), 0);
        due("15: the text stays", x.count(3), 5);
        typeAll(x, 2);
        due("15: a beginning", x.encode(), 4);
        due("15: the least word of it", x.code(3), 4);
        due("15: rest 1", x.count(5), 1);
        PhraseTrees y = of(2, 1, 4);
        y.weight(0, 0, 15);
        typeAll(y, 0, 0, 0, 0, 0, 0, 0);
        due("15: seven of eight", y.encode(), 1);
        due("15: rest 7", y.count(5), 7);
        PhraseTrees z = of(2, 2, 2);
        z.weight(0, 0, 12);
        z.weight(1, 0, 1);
        // tree 0: 000 001 01 1; tree 1: 0 10 110 111
        typeAll(z, 1, 1, 1, 0, 0, 1, 0, 1, 1);
        due("15: a tree for each state", z.encode(), 6);
        due("15: words by states", code(z), 3, 2, 2, 0, 3, 1);
        due("15: rest of the last", z.count(5), 1);
    }

    private static void decodeTold() {
        PhraseTrees x = new PhraseTrees();
        typeAll(x, 1);
        due("16: no words", x.decode(), 0);
        due("16: the text is empty", x.count(3), 0);
        putAll(x, 3, 6, 0);
        due("16: whole", x.decode(), 5);
        due("16: letters", text(x), 1, 2, 2, 0, 0);
        x.rest(1);
        due("16: rest of the last", x.decode(), 4);
        due("16: letters to the rest", text(x), 1, 2, 2, 0);
        x.rest(2);
        due("16: rest as long as the last", x.decode(), 5);
        x.rest(3);
        due("16: rest too long", x.decode(), -1003);
        due("16: refused, the text stays", x.count(3), 5);
        x.put(1, 7);
        due("16: no such word", x.decode(), -1001);
        due("16: no finding", x.count(8), 0);
        x.letters(3, 1);
        x.rest(1);
        due("16: rest without words", x.decode(), -1000);
        x.rest(0);
        for (int k = 0; k < 40; k++) {
            x.put(k, 0);
        }
        due("16: eighty letters", x.decode(), 80);
        x.put(40, 3);
        due("16: full", x.decode(), FULL);
        due("16: full, the text stays", x.count(3), 80);
        x.put(40, 0);
        x.rest(1);
        due("16: full with the rest", x.decode(), FULL);
        x.put(40, 7);
        due("16: fault ahead of full", x.decode(), -1040);
        x.wipe();
        typeAll(x, 2, 2);
        x.encode();
        due("16: fewer words than before", x.decode(), 2);
        due("16: letters of these alone", text(x), 2, 2);
    }

    private static void codeAndPut() {
        PhraseTrees x = new PhraseTrees();
        due("17: none", x.code(0), BAD);
        due("18: bad place", x.put(1, 0) + x.put(-1, 0) + x.put(LEAST, 0) + x.put(MOST, 0), 4 * BAD);
        due("18: bad word", x.put(0, -1) + x.put(0, 64), 2 * BAD);
        due("18: refused, no word", x.count(4), 0);
        x.rest(2);
        due("18: behind", x.put(0, 63), 1);
        due("18: in place", x.put(0, 5), 1);
        due("18: rest stays", x.count(5), 2);
        due("17: the word", x.code(0), 5);
        due("17: bad", x.code(1) + x.code(-1), 2 * BAD);
        for (int k = 1; k < 80; k++) {
            due("18: how many", x.put(k, k % 64), k + 1);
        }
        due("18: full", x.put(80, 0), FULL);
        due("18: bad ahead of full", x.put(80, 64) + x.put(81, 0), 2 * BAD);
        due("18: the last in place", x.put(79, 9), 80);
        due("17: the last", x.code(79), 9);
        due("17: bad behind it", x.code(80), BAD);
    }

    private static void restAndFault() {
        PhraseTrees x = new PhraseTrees();
        due("20: none", x.fault(), NONE);
        due("19: what it was", x.rest(8), 0);
        due("19: bad", x.rest(9) + x.rest(-1), 2 * BAD);
        due("20: rest without words", x.fault(), 0);
        due("19: back", x.rest(0), 8);
        putAll(x, 0, 6);
        due("20: all are words", x.fault(), NONE);
        x.put(2, 7);
        due("20: none of its tree", x.fault(), 2);
        x.put(0, 63);
        due("20: the first", x.fault(), 0);
        x.put(0, 0);
        x.put(2, 3);
        x.rest(1);
        due("20: rest as long", x.fault(), NONE);
        x.rest(2);
        due("20: rest too long for the last", x.fault(), 3);
        x.put(1, 9);
        due("20: a word ahead of the rest", x.fault(), 1);
    }

    private static void harmTold() {
        PhraseTrees x = new PhraseTrees();
        due("21: no words", x.harm(0, 0), BAD);
        putAll(x, 0, 1, 2);
        due("21: bad place", x.harm(3, 0) + x.harm(-1, 0), 2 * BAD);
        due("21: bad word", x.harm(0, 64) + x.harm(0, -1), 2 * BAD);
        due("21: the same", x.harm(1, 1), 0);
        due("21: one", x.harm(1, 4), 1);
        due("21: none of the tree, and all behind", x.harm(1, 7), 2);
        due("21: the last", x.harm(2, 63), 1);
        due("21: nothing stays", code(x), 0, 1, 2);
        x.rest(3);
        due("21: a fault by rest", x.harm(0, 0), NOT);
        x.rest(2);
        due("21: rest that fits the old last", x.harm(2, 3), 1);
        x.put(0, 7);
        due("21: a fault", x.harm(2, 0), NOT);
        due("21: bad ahead of not", x.harm(2, 64), BAD);
        PhraseTrees z = of(2, 2, 2);
        z.weight(0, 0, 12);
        z.weight(1, 0, 1);
        // tree 0: 000 001 01 1; tree 1: 0 10 110 111
        putAll(z, 0, 3, 2, 0);
        // 000 1 110 000 becomes 001 111 ..: in state 1 word 3 is 111, then all is as it was
        due("21: other trees harm what is behind", z.harm(0, 1), 2);
        putAll(z, 3);
        due("21: back in step is not harmed", z.harm(0, 2), 2);
        // like letters in another tree are the same phrase
        PhraseTrees w = of(2, 2, 1);
        putAll(w, 0, 1, 0);
        due("21: letters alone count", w.harm(0, 1), 1);
    }

    private static void bestTold() {
        PhraseTrees x = new PhraseTrees();
        due("22: bad", x.best(2) + x.best(-1), 2 * BAD);
        due("22: no text, the least with enough words", x.best(0), 2);
        due("22: no bits", x.best(1), 0);
        typeAll(x, 1);
        due("22: one letter", 10 * x.best(0) + x.best(1), 22);
        PhraseTrees y = of(2, 1, 1);
        typeAll(y, 0, 0, 0, 0, 0, 0);
        due("22: of like ones the least", 10 * y.best(0) + y.best(1), 16);
        y.weight(0, 0, 15);
        // by 2 bits 000 is a word: 2 words, 4 bits; by 3 bits seven 0s are: 1 word, 3 bits
        y.put(0, 1);
        y.rest(1);
        due("22: the widest is not the shortest", 10 * y.best(0) + y.best(1), 33);
        due("22: nothing of it stays", new int[] {y.count(2), y.count(4), y.count(5), y.count(6)}, 1, 1, 1, 2);
        due("22: nor of the trees", new int[] {y.tree(0, 0), y.tree(0, 1), y.node(0, 1, 1)}, 2, 3, 0);
        due("22: the text stays", y.count(3), 6);
        PhraseTrees z = of(5, 1, 6);
        due("22: five letters want three bits", z.best(0), 3);
        // by 6 bits 1212 is a phrase; by 2 bits it is 8 bits, by 3 9, by 4 8, by 5 10
        PhraseTrees w = of(3, 1, 2);
        typeAll(w, 1, 2, 1, 2);
        due("22: the widest", 10 * w.best(0) + w.best(1), 66);
    }

    private static void likelyTold() {
        PhraseTrees x = new PhraseTrees();
        due("23: bad", x.likely(2), BAD_LONG);
        due("23: bad below", x.likely(-1), BAD_LONG);
        due("23: no text", 10 * x.likely(0) + x.likely(1), 11);
        typeAll(x, 2);
        due("23: 3/8 above", x.likely(0), 3);
        due("23: 3/8 below", x.likely(1), 8);
        PhraseTrees y = of(2, 2, 1);
        y.weight(0, 0, 3);
        y.weight(1, 0, 5);
        typeAll(y, 1, 1, 0, 0);
        due("23: by states, above", y.likely(0), 13 * 11 * 5 * 3);
        due("23: by states, below", y.likely(1), 65536);
        PhraseTrees z = of(3, 1, 2);
        for (int k = 0; k < 15; k++) {
            z.type(0);
        }
        due("23: as far as numbers go, above", z.likely(0), 30517578125L);
        due("23: as far as numbers go, below", z.likely(1), 1L << 60);
        z.type(1);
        due("23: over", z.likely(0), OVER_LONG);
        due("23: over below", z.likely(1), OVER_LONG);
        due("23: bad ahead of over", z.likely(2), BAD_LONG);
        // in lowest terms at each letter: halves go on until 16 times 2 to the 59 is too much
        PhraseTrees w = of(2, 1, 1);
        for (int k = 0; k < 59; k++) {
            w.type(k % 2);
        }
        due("23: 59 halves", w.likely(1), 1L << 59);
        w.type(0);
        due("23: one more times 16 is over", w.likely(1), OVER_LONG);
    }

    private static void slotsTold() {
        PhraseTrees x = of(2, 2, 4);
        x.weight(1, 0, 3);
        due("24: bad", x.keep(4) + x.keep(-1), 2 * BAD);
        due("24: how many", x.keep(3), 1);
        due("24: the same again", x.keep(3), 1);
        due("25: bad", x.take(4) + x.take(-1), 2 * BAD);
        due("25: empty", x.take(0), NULL);
        due("25: a finding", x.count(8), 1);
        x.weight(1, 0, 9);
        typeAll(x, 0, 1);
        x.encode();
        x.rest(1);
        due("24: of another", x.keep(0), 2);
        due("24: keeps nothing away", x.count(3), 2);
        x.width(6);
        x.letters(5, 3);
        typeAll(x, 4);
        x.put(0, 1);
        x.rest(1);
        due("25: leaves of all trees", x.take(3), 32);
        due("25: M, Q, width", new int[] {x.count(0), x.count(1), x.count(2)}, 2, 2, 4);
        due("25: weights", new int[] {x.tree(0, 3), x.tree(1, 3), x.tree(1, 4)}, 8, 3, 13);
        due("25: emptied", new int[] {x.count(3), x.count(4), x.count(5)}, 0, 0, 0);
        x.weight(1, 0, 4);
        x.take(3);
        due("25: a slot is not changed by weights", x.tree(1, 3), 3);
        due("25: chances of its trees", x.chance(1, 1, 0), 3);
        x.take(0);
        due("25: the other slot", x.tree(1, 3), 9);
        due("25: chances of its trees, too", x.chance(1, 1, 0), 9);
        due("26: bad", x.drop(4) + x.drop(-1), 2 * BAD);
        due("26: empty", x.drop(1), NULL);
        due("26: how many are not", x.drop(3), 1);
        due("26: it is empty", x.take(3), NULL);
        due("26: again", x.drop(3), NULL);
        due("26: the last", x.drop(0), 0);
    }

    private static void cratesTold() {
        PhraseTrees x = new PhraseTrees();
        due("27: bad crate", x.crate(4, 0, 1) + x.crate(-1, 0, 1), 2 * BAD);
        due("27: bad form", x.crate(0, 3, 1) + x.crate(0, -1, 1), 2 * BAD);
        due("27: above 20", x.crate(0, 0, 21), BAD);
        due("27: bad ahead of size", x.crate(4, 0, -1) + x.crate(0, 3, -1), 2 * BAD);
        due("27: no finding yet", x.count(8), 0);
        due("27: size", x.crate(0, 0, -1), SIZE);
        due("27: size, far below", x.crate(0, 0, LEAST), SIZE);
        due("27: the finding", x.count(8), 4);
        due("27: refused, it is lost", x.count(7), 0);
        due("27: no places", x.crate(0, 0, 0), 0);
        due("27: twenty", x.crate(1, 1, 20), 20);
        due("27: not lost", x.count(7), 2);
        due("27: nothing in it", x.held(1, 19, 0), NULL);
        x.hold(1, 0, 0, 2);
        due("27: size refused", x.crate(1, 0, -1), SIZE);
        due("27: the row stays", x.held(1, 0, 0), 2);
        due("27: a new row", x.crate(1, 0, 3), 3);
        due("27: with nothing", x.held(1, 0, 0), NULL);
        due("28: bad", x.lose(4) + x.lose(-1), 2 * BAD);
        due("28: lost already", x.lose(2), NULL);
        due("28: no places", x.lose(0), 0);
        due("28: three", x.lose(1), 3);
        due("28: again", x.lose(1), NULL);
        due("28: all are lost", x.count(7), 0);
    }

    private static void holdAndHeld() {
        PhraseTrees x = new PhraseTrees();
        due("29: bad crate", x.hold(4, 0, 0, 0) + x.hold(-1, 0, 0, 0), 2 * BAD);
        due("29: bad tree", x.hold(0, 0, 1, 0) + x.hold(0, 0, -1, 0), 2 * BAD);
        due("29: bad node", x.hold(0, 0, 0, 10) + x.hold(0, 0, 0, -1), 2 * BAD);
        due("29: lost", x.hold(0, 99, 0, 0), NULL);
        x.crate(0, 0, 2);
        x.crate(1, 1, 2);
        x.crate(2, 2, 2);
        due("29: index", x.hold(0, 2, 0, 0), INDEX);
        due("29: index below", x.hold(0, -1, 0, 0), INDEX);
        due("29: the finding", x.count(8), 2);
        due("29: bad ahead of index", x.hold(0, 2, 0, 10), BAD);
        due("29: index ahead of store", x.hold(1, 2, 0, 0), INDEX);
        due("29: no split one among leaves", x.hold(1, 0, 0, 0), STORE);
        due("29: the finding of it", x.count(8), 3);
        due("29: no leaf among split ones", x.hold(2, 0, 0, 2), STORE);
        due("29: refused, nothing came", x.held(2, 0, 0), NULL);
        due("29: any in any", x.hold(0, 0, 0, 1) + x.hold(0, 1, 0, 4), 2);
        due("29: leaf", x.hold(1, 1, 0, 5), 1);
        due("29: split", x.hold(2, 0, 0, 6), 1);
        due("30: bad crate", x.held(4, 0, 0) + x.held(-1, 0, 0), 2 * BAD);
        due("30: bad what", x.held(0, 0, 3) + x.held(0, 0, -1) + x.held(3, 0, 3), 3 * BAD);
        due("30: lost", x.held(3, 0, 0), NULL);
        due("30: lost ahead of index", x.held(3, 9, 0), NULL);
        due("30: index", x.held(0, 2, 0) + x.held(0, -1, 0), 2 * INDEX);
        due("30: the finding", x.count(8), 2);
        due("30: nothing", x.held(2, 1, 1), NULL);
        due("30: the finding of it", x.count(8), 1);
        due("30: a split one", new int[] {x.held(0, 0, 0), x.held(0, 0, 1), x.held(0, 0, 2)},
                1, 0, Float.floatToIntBits(5f / 16f));
        due("30: a leaf", new int[] {x.held(0, 1, 0), x.held(0, 1, 1), x.held(0, 1, 2)},
                2, 1, Float.floatToIntBits(30f / 256f));
        x.letters(2, 3);
        due("30: as it was when it came", new int[] {x.held(0, 0, 0), x.held(0, 0, 1), x.held(0, 0, 2)},
                1, 0, Float.floatToIntBits(5f / 16f));
        x.width(1);
        due("30: still", x.held(2, 0, 1), 0);
    }

    private static void moveTold() {
        PhraseTrees x = new PhraseTrees();
        x.crate(0, 0, 5);
        x.crate(1, 1, 3);
        x.crate(2, 2, 3);
        due("31: bad", x.move(4, 0, 0, 0, 1) + x.move(0, 0, 4, 0, 1) + x.move(-1, 0, 3, 0, 1), 3 * BAD);
        due("31: lost", x.move(3, 0, 0, 0, 1) + x.move(0, 0, 3, 0, 1), 2 * NULL);
        due("31: lost ahead of index", x.move(0, 99, 3, -1, -1), NULL);
        due("31: below 0", x.move(0, -1, 1, 0, 1) + x.move(0, 0, 1, -1, 1) + x.move(0, 0, 1, 0, -1), 3 * INDEX);
        due("31: not so many", x.move(0, 3, 0, 0, 3) + x.move(0, 0, 1, 1, 3), 2 * INDEX);
        due("31: too many by far", x.move(0, 1, 0, 1, MOST) + x.move(0, MOST, 0, 0, MOST), 2 * INDEX);
        due("31: none, from the end", x.move(0, 5, 1, 3, 0), 0);
        due("31: none, from beyond", x.move(0, 6, 1, 3, 0) + x.move(0, 5, 1, 4, 0), 2 * INDEX);
        due("31: the finding", x.count(8), 2);
        x.hold(0, 0, 0, 2);
        x.hold(0, 1, 0, 5);
        x.hold(0, 2, 0, 1);
        x.hold(0, 3, 0, 2);
        x.hold(1, 2, 0, 9);
        due("31: store", x.move(0, 0, 1, 0, 3), STORE);
        due("31: the finding of it", x.count(8), 3);
        due("31: those ahead are there", new int[] {x.held(1, 0, 0), x.held(1, 1, 0)}, 2, 1);
        due("31: the others are as they were", x.held(1, 2, 0), 2);
        due("31: nothing is for any", x.move(0, 4, 2, 0, 1) + x.move(2, 0, 1, 0, 1), 2);
        due("31: nothing came", x.held(1, 0, 0), NULL);
        due("31: split ones", x.move(0, 2, 2, 2, 1), 1);
        due("31: the same crate, towards the end", x.move(0, 0, 0, 1, 3), 3);
        due("31: as they were", new int[] {x.held(0, 0, 0), x.held(0, 1, 0), x.held(0, 2, 0), x.held(0, 3, 0),
            x.held(0, 3, 1)}, 2, 2, 1, 1, 0);
        due("31: the same crate, towards the beginning", x.move(0, 1, 0, 0, 4), 4);
        due("31: moved", new int[] {x.held(0, 0, 0), x.held(0, 1, 0), x.held(0, 2, 1), x.held(0, 3, 0)},
                2, 1, 0, NULL);
    }

    private static void sheetsTold() {
        PhraseTrees x = new PhraseTrees();
        due("32: bad", x.sheet(2, 1) + x.sheet(-1, 1) + x.sheet(0, 81), 3 * BAD);
        due("32: bad ahead of size", x.sheet(2, -1), BAD);
        due("32: size", x.sheet(0, -1), SIZE);
        due("32: the finding", x.count(8), 4);
        due("33: lost", x.lay(0, 99, 1), NULL);
        due("34: lost", x.get(0, 99), LEAST);
        due("34: count tells", x.count(8), 1);
        due("32: eighty", x.sheet(0, 80), 80);
        due("32: none", x.sheet(1, 0), 0);
        due("33: bad", x.lay(2, 0, 1) + x.lay(-1, 0, 1), 2 * BAD);
        due("33: index", x.lay(0, 80, 1) + x.lay(0, -1, 1) + x.lay(1, 0, 1), 3 * INDEX);
        due("33: the finding", x.count(8), 2);
        due("34: at first", x.get(0, 79), 0);
        due("33: laid", x.lay(0, 79, 127), 1);
        due("34: it", x.get(0, 79), 127);
        x.lay(0, 79, 128);
        due("33: with its sign", x.get(0, 79), -128);
        x.lay(0, 0, -257);
        due("33: the lowest bits", x.get(0, 0), -1);
        due("34: bad", x.get(2, 0), LEAST);
        x.take(0);
        due("34: bad is no finding", x.get(-1, 0) + x.count(8), LEAST + 1);
        due("34: index", x.get(0, 80), LEAST);
        due("34: count tells of it", x.count(8), 2);
        due("34: below", x.get(0, -1), LEAST);
        due("32: size refused", x.sheet(0, LEAST), SIZE);
        due("32: the sheet stays", x.get(0, 79), -128);
        due("32: anew", x.sheet(0, 80), 80);
        due("32: of zeros", new int[] {x.get(0, 0), x.get(0, 79)}, 0, 0);
    }

    private static void writeTold() {
        PhraseTrees x = new PhraseTrees();
        due("35: bad", x.write(2) + x.write(-1), 2 * BAD);
        due("35: lost", x.write(1), NULL);
        due("35: the finding", x.count(8), 1);
        putAll(x, 63, 2, 5);
        x.sheet(0, 2);
        x.sheet(1, 4);
        x.lay(1, 3, 77);
        due("35: as many as there are bytes", x.write(0), 2);
        due("35: the bytes", new int[] {x.get(0, 0), x.get(0, 1)}, 63, 2);
        due("35: as many as there are words", x.write(1), 3);
        due("35: the others stay", new int[] {x.get(1, 0), x.get(1, 1), x.get(1, 2), x.get(1, 3)}, 63, 2, 5, 77);
        x.width(3);
        due("35: no words", x.write(1), 0);
    }

    private static void countTold() {
        PhraseTrees x = of(4, 3, 2);
        typeAll(x, 3, 2);
        putAll(x, 1, 2, 3);
        x.rest(5);
        x.crate(2, 0, 1);
        x.crate(2, 0, -1);
        int[] want = {4, 3, 2, 2, 3, 5, 12, 1, 4};
        for (int what = 0; what <= 8; what++) {
            due("36: count(" + what + ")", x.count(what), want[what]);
        }
        due("36: bad", x.count(9) + x.count(-1) + x.count(LEAST) + x.count(MOST), 4 * BAD);
    }

    private static long told(PhraseTrees x, int q) {
        long h = 17;
        for (int what = 0; what <= 7; what++) {
            h = 31 * h + x.count(what);
        }
        for (int s = 0; s < q; s++) {
            for (int what = 0; what <= 7; what++) {
                h = 31 * h + x.tree(s, what);
            }
            for (int what = 0; what <= 3; what++) {
                h = 31 * h + x.expected(s, what);
            }
            for (int i = 0; i < x.tree(s, 1); i++) {
                for (int what = 0; what <= 10; what++) {
                    h = 31 * h + x.node(s, i, what);
                }
                h = 31 * (31 * (31 * h + x.chance(s, i, 0)) + x.chance(s, i, 1)) + x.bits(s, i);
            }
        }
        h = 31 * h + x.longRun();
        for (int l : text(x)) {
            h = 31 * h + l;
        }
        for (int v : code(x)) {
            h = 31 * h + v;
        }
        h = 31 * h + x.fault();
        h = 31 * (31 * h + x.best(0)) + x.best(1);
        return 31 * (31 * h + x.likely(0)) + x.likely(1);
    }

    private static PhraseTrees withText() {
        PhraseTrees x = of(3, 2, 3);
        x.weight(1, 0, 9);
        typeAll(x, 0, 1, 2, 2, 1, 0);
        x.encode();
        return x;
    }

    private static void digestTold() {
        PhraseTrees w = withText();
        due("37: no crates", w.digest(), told(w, 2));
        due("37: the same again", w.digest(), w.digest());
        PhraseTrees x = withText();
        x.crate(1, 0, 2);
        x.hold(1, 0, 1, 0);
        x.count(8);
        long h = told(x, 2);
        for (int v : new int[] {0, 0, Float.floatToIntBits(1f), NULL, NULL, NULL}) {
            h = 31 * h + v;
        }
        x.sheet(0, -1);
        due("37: a crate with nothing in a place", x.digest(), h);
        due("37: no finding of its own", x.count(8), 4);
        x.rest(8);
        due("37: with a fault", x.digest() == h ? 1 : 0, 0);
        PhraseTrees y = new PhraseTrees();
        y.crate(0, 1, 1);
        y.crate(3, 2, 1);
        y.hold(3, 0, 0, 1);
        h = told(y, 1);
        for (int v : new int[] {NULL, NULL, NULL, 1, 0, Float.floatToIntBits(5f / 16f)}) {
            h = 31 * h + v;
        }
        due("37: the first crate and the last", y.digest(), h);
    }

    public static void main(String[] args) {
        newObject();
        findings();
        lettersTold();
        widthTold();
        weightTold();
        treeTold();
        nodeTold();
        chanceTold();
        bitsTold();
        expectedTold();
        longRunTold();
        theText();
        readTold();
        encodeTold();
        decodeTold();
        codeAndPut();
        restAndFault();
        harmTold();
        bestTold();
        likelyTold();
        slotsTold();
        cratesTold();
        holdAndHeld();
        moveTold();
        sheetsTold();
        writeTold();
        countTold();
        digestTold();
        System.out.println(calls - wrong + " of " + calls + " answers are as due");
        System.exit(wrong == 0 ? 0 : 1);
    }
}
