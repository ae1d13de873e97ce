/** Boundary cases that "What it is" and "Terms" name. */
final class EdgesOfTerms extends Edges {
    static void run() {
        lettersAndStates();
        weights();
        widths();
        roots();
        growth();
        numbers();
        means();
        told();
        faults();
        harms();
        odds();
        things();
        refusals();
        calls();
    }

    private static void calls() {
        says(TERMS, "An object is used for at most 512 calls after it has been made; what later calls answer is free");
        PhraseTrees x = new PhraseTrees();
        for (int k = 0; k < 511; k++) {
            x.put(k % 80, k % 7);
        }
        due("the 512th call", x.count(4), 80);
    }

    private static void lettersAndStates() {
        says(TERMS, "LETTERS are 0 to M less 1");
        for (int m = 2; m <= 5; m++) {
            PhraseTrees x = of(m, 1, 3);
            due("M " + m, x.count(0), m);
            due("the first letter of " + m, x.type(0), 1);
            due("the last letter of " + m, x.type(m - 1), 2);
            due("one more than the last of " + m, x.type(m), BAD);
        }
        says(TERMS, "(M 2 to 5; 3 at first)");
        due("letter 2 of a new object", new PhraseTrees().type(2), 1);
        due("letter 3 of a new object", new PhraseTrees().type(3), BAD);
        says(TERMS, "STATES are 0 to Q less 1 (Q 1 to 3");
        for (int q = 1; q <= 3; q++) {
            PhraseTrees x = of(2, q, 3);
            due("Q " + q, x.count(1), q);
            due("the last state of " + q, x.tree(q - 1, 0), 8);
            due("one more than the last of " + q, x.tree(q, 0), BAD);
        }
        says(TERMS, "1 at first)");
        due("state 0 of a new object", new PhraseTrees().tree(0, 0), 7);
        due("state 1 of a new object", new PhraseTrees().tree(1, 0), BAD);
        says(TERMS, "behind LETTER l the STATE is l modulo Q, at the beginning 0");
        // letter 0 has weights 1, 5, 6 in states 0, 1, 2; letter 4 has 6 in state 0, the others 3
        Setup byState = x -> {
            set(x, 5, 3, 3);
            x.weight(0, 0, 1);
            x.weight(1, 0, 5);
            x.weight(2, 0, 6);
        };
        int[] above = {1, 15, 9, 3, 15};
        int[] below = {256, 256, 128, 256, 128};
        for (int l = 0; l <= 4; l++) {
            PhraseTrees x = made(byState);
            typeAll(x, l, 0);
            due("0 behind letter " + l + ", above", x.likely(0), above[l]);
            due("0 behind letter " + l + ", below", x.likely(1), below[l]);
        }
        // of two letters none leads to state 2, and its tree is there nevertheless
        PhraseTrees y = of(2, 3, 1);
        due("a state that no letter leads to", y.weight(2, 0, 15), 8);
        due("its tree", y.chance(2, 1, 0), 15);
        due("and no share of the long run", y.longRun(), Double.doubleToLongBits(1.0));
    }

    private static void weights() {
        says(TERMS, "WEIGHT of a LETTER in a STATE: 1 to 15, all of a STATE are 16 together");
        PhraseTrees x = of(2, 3, 3);
        due("the greatest", x.weight(1, 0, 15), 8);
        due("16 together", weights(x, 1), 15, 1, 0, 0, 0);
        due("the least", x.weight(1, 0, 1), 15);
        due("16 together again", weights(x, 1), 1, 15, 0, 0, 0);
        says(TERMS, "at first, and whenever M or Q is told, 16 by M, cut, of the last LETTER what is left");
        int[][] even = {{8, 8, 0, 0, 0}, {5, 5, 6, 0, 0}, {4, 4, 4, 4, 0}, {3, 3, 3, 3, 4}};
        due("at first", weights(new PhraseTrees(), 0), even[1]);
        for (int m = 2; m <= 5; m++) {
            for (int q = 0; q <= 2; q++) {
                due("of " + m + " letters in state " + q, weights(of(m, 3, 6), q), even[m - 2]);
            }
        }
        x.letters(2, 3);
        due("the same M and Q told again", weights(x, 1), even[0]);
        x.weight(0, 0, 15);
        x.letters(2, 1);
        due("less Q told", weights(x, 0), even[0]);
        x.weight(0, 0, 15);
        x.letters(2, 2);
        due("more Q told, the old state", weights(x, 0), even[0]);
        due("more Q told, the new state", weights(x, 1), even[0]);
        says(TERMS, "of the others it may be told, the last one has what is left");
        PhraseTrees y = of(5, 1, 3);
        for (int l = 0; l <= 3; l++) {
            y.weight(0, l, 1);
        }
        due("what all others leave", weights(y, 0), 1, 1, 1, 1, 12);
        due("may not be told of the last", y.weight(0, 4, 1), BAD);
    }

    private static void widths() {
        says(TERMS, "WIDTH is 1 to 6 (3 at first), with no fewer than M WORDS of that many bits");
        due("at first", new PhraseTrees().count(2), 3);
        int[] least = {1, 2, 2, 3};
        for (int m = 2; m <= 5; m++) {
            for (int b = 0; b <= 7; b++) {
                int due = b < 1 || b > 6 ? BAD : b < least[m - 2] ? NOT : 6;
                due("width " + b + " for " + m + " letters", of(m, 1, 6).width(b), due);
            }
        }
        says(TERMS, "CHANCE of a LETTER: WEIGHT by 16, of LETTERS one behind another, from a STATE on");
        PhraseTrees x = of(2, 2, 1);
        x.weight(0, 0, 15);
        x.weight(1, 0, 1);
        due("the greatest of a letter", x.chance(0, 1, 0), 15);
        due("over 16", x.chance(0, 1, 1), 16);
        due("the least of a letter", x.chance(1, 1, 0), 1);
        due("no letters: 1", x.chance(1, 0, 0) + x.chance(1, 0, 1), 2);
    }

    private static void roots() {
        says(TERMS, "the empty one, its ROOT, is SPLIT");
        due("even where no other can be", of(5, 1, 3).node(0, 0, 1), NONE);
        due("with a bit alone", of(2, 1, 1).node(0, 0, 1), NONE);
        due("it is empty", of(2, 1, 1).node(0, 0, 0), 0);
        says(TERMS, "a NODE that is SPLIT has one more NODE for each LETTER more");
        for (int m = 2; m <= 5; m++) {
            PhraseTrees x = of(m, 1, m == 2 ? 1 : m == 5 ? 3 : 2);
            due("the root alone of " + m, x.tree(0, 1), m + 1);
            due("its nodes", x.node(0, 0, 10), m);
            due("the last of them", x.node(0, m, 2), m - 1);
        }
        says(TERMS, "those that are not SPLIT are LEAVES");
        PhraseTrees x = new PhraseTrees();
        int leaves = 0;
        for (int i = 0; i < 10; i++) {
            leaves += x.node(0, i, 10) == 0 ? 1 : 0;
            due("node " + i + " is a leaf or goes on", (x.node(0, i, 10) == 0) == (x.node(0, i, 1) != NONE));
        }
        due("leaves", x.tree(0, 0), leaves);
        says(TERMS, "TREE q, of each STATE q: NODES are rows of LETTERS");
        due("of a state too many there is none", x.node(1, 0, 0), LEAST);
    }

    private static void growth() {
        says(TERMS, "As long as LEAVES would be no more than there are WORDS of WIDTH bits");
        int[][] leaves = {{2, 4, 8, 16, 32, 64}, {0, 3, 7, 15, 31, 63}, {0, 4, 7, 16, 31, 64}, {0, 0, 5, 13, 29, 61}};
        for (int m = 2; m <= 5; m++) {
            for (int b = 1; b <= 6; b++) {
                if (leaves[m - 2][b - 1] > 0) {
                    due(m + " letters by " + b + " bits", of(m, 2, b).tree(1, 0), leaves[m - 2][b - 1]);
                }
            }
        }
        says(TERMS, "the LEAF with the greatest CHANCE (from STATE q on)");
        // leaves are 2, 1, 0 with 6, 5, 5 of 16
        PhraseTrees x = new PhraseTrees();
        due("2 is split", x.node(0, 6, 10), 3);
        due("1 is not", x.node(0, 5, 10), 0);
        // one state likes letter 0 and the other letter 1: 000 001 01 1, and 0 10 110 111
        PhraseTrees y = of(2, 2, 2);
        y.weight(0, 0, 12);
        y.weight(1, 0, 4);
        due("from state 0 on", letters(y, 0, 3), "000");
        due("from state 1 on", letters(y, 1, 6), "111");
        says(TERMS, "of like ones the one with fewest LETTERS");
        // 0 has 8 of 16, then 00, 1 and 2 have 4 of 16
        PhraseTrees z = of(3, 1, 3);
        z.weight(0, 0, 8);
        z.weight(0, 1, 4);
        due("00 is not split", letters(z, 0, 2) + z.node(0, 2, 10), "000");
        due("1 is split", letters(z, 0, 5) + z.node(0, 5, 10), "13");
        says(TERMS, "of these the first by LETTERS, is SPLIT");
        // by 5 bits 10 splits of four even letters: the root, 0 to 3, 00 to 03, 10
        PhraseTrees w = of(4, 1, 5);
        due("03 is split", letters(w, 0, 17) + w.node(0, 17, 10), "034");
        due("10 is split", letters(w, 0, 23) + w.node(0, 23, 10), "104");
        due("11 is not", letters(w, 0, 28) + w.node(0, 28, 10), "110");
        says(TERMS, "those with 8 LETTERS are not");
        PhraseTrees v = of(2, 1, 4);
        v.weight(0, 0, 15);
        due("eight letters are the most", v.tree(0, 2), 8);
        due("the likeliest of all is not split", v.node(0, 8, 0), 8);
        due("it is a leaf", v.node(0, 8, 1), 0);
        due("others are instead", v.tree(0, 0), 16);
        due("the unlikeliest at first is", v.node(0, v.tree(0, 1) - 1, 0) > 1);
        v.width(3);
        due("with one word fewer than eight letters take", v.tree(0, 2), 7);
    }

    private static void numbers() {
        says(TERMS, "NODES are numbered by LETTERS, each ahead of those that go on with it");
        PhraseTrees x = new PhraseTrees();
        String[] rows = {"", "0", "00", "01", "02", "1", "2", "20", "21", "22"};
        for (int i = 0; i < rows.length; i++) {
            due("node " + i, letters(x, 0, i), rows[i]);
        }
        says(TERMS, "the ROOT is 0");
        due("no letters", x.node(0, 0, 0), 0);
        due("nothing ahead of it", x.node(0, -1, 0), LEAST);
        says(TERMS, "WORDS are the numbers of LEAVES alone, in that order, 0 on");
        int[] words = {NONE, NONE, 0, 1, 2, 3, NONE, 4, 5, 6};
        for (int i = 0; i < words.length; i++) {
            due("word of node " + i, x.node(0, i, 1), words[i]);
        }
        PhraseTrees y = of(2, 1, 6);
        due("the greatest word there is", y.node(0, 126, 1), 63);
    }

    private static void means() {
        says(TERMS, "EXPECTED of a TREE: of its LEAVES CHANCE times how many LETTERS, together");
        due("all leaves of one letter", of(5, 1, 3).expected(0, 0), 1);
        due("all leaves of six letters", of(2, 1, 6).expected(0, 0), 6);
        due("27/16 above", new PhraseTrees().expected(0, 0), 27);
        due("27/16 below", new PhraseTrees().expected(0, 1), 16);
        says(TERMS, "LONG RUN: doubles, one for each STATE, 1.0 for STATE 0, 0.0 for others");
        due("one state", new PhraseTrees().longRun(), Double.doubleToLongBits(1.6875));
        // letter 0 never leaves state 0 but by 1 of 16; all have one letter
        PhraseTrees y = of(2, 2, 1);
        y.weight(0, 0, 15);
        due("two states, one letter each", y.longRun(), Double.doubleToLongBits(1.0));
        says(TERMS, "64 times each becomes, from 0.0 on, the sum, STATES in order");
        // state 0 mostly goes to 1 and 1 mostly to 0, so that shares still change in the last turn
        PhraseTrees z = of(2, 2, 2);
        z.weight(0, 0, 1);
        z.weight(1, 0, 14);
        // over 4096: 0 256, 100 210, 101 3150, 11 480; and 00 224, 010 2940, 011 420, 1 512
        double[] swing = {466, 3630, 256 + 2 * 480 + 3 * 3360, 3164, 932, 512 + 2 * 224 + 3 * 3360};
        due("64 times", z.longRun(), Double.doubleToLongBits(longRun(64, swing)));
        due("63 times is another", longRun(63, swing) != longRun(64, swing));
        due("65 times is another", longRun(65, swing) != longRun(64, swing));
        says(TERMS, "then, from 0.0 on, the sum of that of each STATE times EXPECTED of its TREE "
                + "(as doubles; all of these are told as doubles exactly)");
        PhraseTrees w = of(3, 2, 3);
        w.weight(1, 0, 1);
        w.weight(1, 1, 1);
        // over 4096: 00 400, 01 400, 02 480, 1 1280, 20 480, 21 480, 22 576;
        // and 0 256, 1 256, 20 1120, 21 1120, 220 420, 221 420, 222 504
        double[] other = {1936, 2160, 1280 + 2 * 2816, 2300, 1796, 512 + 2 * 2240 + 3 * 1344};
        due("trees of two shapes", w.longRun(), Double.doubleToLongBits(longRun(64, other)));
    }

    /** Of state 0, then of state 1, over 4096: to state 0, to state 1, chance times letters. */
    private static double longRun(int turns, double[] by) {
        double share0 = 1.0, share1 = 0.0;
        for (int k = 0; k < turns; k++) {
            double next0 = share0 * (by[0] / 4096.0) + share1 * (by[3] / 4096.0);
            double next1 = share0 * (by[1] / 4096.0) + share1 * (by[4] / 4096.0);
            share0 = next0;
            share1 = next1;
        }
        return share0 * (by[2] / 4096.0) + share1 * (by[5] / 4096.0);
    }

    /** One likely letter: 0 eight times is a phrase, with word 0. */
    static void eights(PhraseTrees x) {
        set(x, 2, 1, 4);
        x.weight(0, 0, 15);
    }

    private static void told() {
        says(TERMS, "THE TEXT has up to 80 LETTERS");
        PhraseTrees x = new PhraseTrees();
        typeTimes(x, 79, 1);
        due("the 80th", x.type(1), 80);
        due("the 81st", x.type(1), FULL);
        says(TERMS, "THE CODE has up to 80 WORDS (0 to 63) and a REST (0 to 8)");
        putTimes(x, 79, 63);
        due("the 80th word", x.put(79, 0), 80);
        due("the 81st word", x.put(80, 0), FULL);
        due("a word of 64", x.put(0, 64), BAD);
        due("a rest of 8", x.rest(8), 0);
        due("a rest of 9", x.rest(9), BAD);
        says(TERMS, "TOLD IN WORDS: from STATE 0 on, the LEAF of the TREE of the STATE with which what is left");
        PhraseTrees y = of(2, 2, 2);
        y.weight(0, 0, 12);
        y.weight(1, 0, 1);
        // tree 0: 000 001 01 1; tree 1: 0 10 110 111
        typeAll(y, 1, 0, 0, 1);
        y.encode();
        due("1 by tree 0, 0 by tree 1, 01 by tree 0", code(y), 3, 0, 2);
        says(TERMS, "if what is left is the beginning of a LEAF alone, of r LETTERS, the least WORD");
        for (int r = 1; r <= 7; r++) {
            PhraseTrees z = made(EdgesOfTerms::eights);
            typeTimes(z, r, 0);
            due(r + " of eight are one word", z.encode(), 1);
            due("the least", z.code(0), 0);
            due("and a rest", z.count(5), r);
        }
        PhraseTrees w = new PhraseTrees();
        typeAll(w, 2);
        w.encode();
        due("2 begins 20, 21, 22: words 4, 5, 6", code(w), 4);
        says(TERMS, "else REST is 0");
        PhraseTrees z = made(EdgesOfTerms::eights);
        typeTimes(z, 8, 0);
        z.rest(5);
        due("all eight", z.encode(), 1);
        due("no rest", z.count(5), 0);
        z.type(0);
        due("nine", z.encode(), 2);
        due("a rest of 1", z.count(5), 1);
    }

    private static void faults() {
        says(TERMS, "PHRASES of THE CODE: each WORD its LEAF in the TREE of the STATE behind the one ahead");
        PhraseTrees y = of(2, 2, 2);
        y.weight(0, 0, 12);
        y.weight(1, 0, 1);
        putAll(y, 3, 0, 2);
        y.decode();
        due("1 by tree 0, 0 by tree 1, 01 by tree 0", text(y), 1, 0, 0, 1);
        says(TERMS, "FAULT: the first WORD that is none of its TREE (from there on there are no PHRASES)");
        PhraseTrees x = new PhraseTrees();
        putAll(x, 6, 7, 63);
        due("6 is the last of seven words", x.fault(), 1);
        due("no phrases to be told back", x.decode(), -1001);
        says(TERMS, "or how many WORDS, if REST is more than the last PHRASE has LETTERS");
        x.put(1, 0);
        x.put(2, 0);
        x.rest(2);
        due("as many", x.fault(), NONE);
        x.rest(3);
        due("more", x.fault(), 3);
        says(TERMS, "(with no WORDS: more than 0)");
        PhraseTrees z = new PhraseTrees();
        due("0", z.fault(), NONE);
        z.rest(1);
        due("1", z.fault(), 0);
        says(TERMS, "TOLD BACK: LETTERS of all PHRASES, of the last one the first REST, if that is not 0");
        PhraseTrees w = new PhraseTrees();
        putAll(w, 1, 5);
        w.decode();
        due("rest 0", text(w), 0, 1, 2, 1);
        w.rest(1);
        w.decode();
        due("rest 1", text(w), 0, 1, 2);
        w.rest(2);
        w.decode();
        due("rest 2, all of it", text(w), 0, 1, 2, 1);
    }

    private static void harms() {
        says(TERMS, "HARM of a WORD v at k: how many of PHRASES of THE CODE, one by one, are not the same, or not there");
        PhraseTrees x = new PhraseTrees();
        putTimes(x, 80, 0);
        due("the word itself", x.harm(0, 0), 0);
        due("the last of its tree", x.harm(0, 6), 1);
        due("none of its tree: all from there on are not there", x.harm(0, 7), 80);
        due("the last of eighty", x.harm(79, 63), 1);
    }

    private static void odds() {
        says(TERMS, "LIKELY: above 1, below 1");
        PhraseTrees x = new PhraseTrees();
        due("no text, above", x.likely(0), 1);
        due("no text, below", x.likely(1), 1);
        says(TERMS, "for each LETTER of THE TEXT, from STATE 0 on, above becomes it times WEIGHT, below it times 16, OVER");
        int[] weights = {15, 8, 4, 2, 1};
        int[] most = {15, 59, 30, 20, 15};
        long[] below = {1L << 60, 1L << 59, 1L << 60, 1L << 60, 1L << 60};
        for (int k = 0; k < weights.length; k++) {
            PhraseTrees y = of(2, 1, 1);
            y.weight(0, 0, weights[k]);
            typeTimes(y, most[k], 0);
            due("weight " + weights[k] + ", as far as it goes", y.likely(1), below[k]);
            y.type(0);
            due("weight " + weights[k] + ", one letter more", y.likely(1), OVER_LONG);
            due("weight " + weights[k] + ", one letter more, above", y.likely(0), OVER_LONG);
        }
        says(TERMS, "both are put in lowest terms");
        PhraseTrees z = new PhraseTrees();
        typeAll(z, 2, 2);
        due("36/256 above", z.likely(0), 9);
        due("36/256 below", z.likely(1), 64);
    }

    private static void things() {
        says(TERMS, "CRATES 0 .. 3 are LOST (at first) or a row of a FORM: 0 NODES, 1 LEAVES, 2 SPLIT ones, of 0 to 20 places, with NOTHING in each");
        PhraseTrees x = new PhraseTrees();
        for (int c = 0; c <= 3; c++) {
            due("lost at first", x.lose(c), NULL);
            due("no places", x.crate(c, 0, 0), 0);
            due("twenty places", x.crate(c, 2, 20), 20);
            due("nothing in the first", x.held(c, 0, 0), NULL);
            due("nothing in the last", x.held(c, 19, 0), NULL);
        }
        due("there is no crate 4", x.crate(4, 0, 1), BAD);
        says(TERMS, "A NODE in a CRATE is as it was when it came there");
        PhraseTrees y = new PhraseTrees();
        y.crate(0, 2, 1);
        y.hold(0, 0, 0, 1);
        y.width(2);
        due("a leaf now, split then", held(y, 0, 0), 1, 0, Float.floatToIntBits(0.3125f));
        y.letters(2, 1);
        y.weight(0, 0, 1);
        due("other letters and weights", held(y, 0, 0), 1, 0, Float.floatToIntBits(0.3125f));
        says(TERMS, "SHEETS 0, 1 are LOST (at first) or a row of 0 to 80 bytes (0 at first)");
        for (int s = 0; s <= 1; s++) {
            due("lost at first", y.write(s), NULL);
            due("no bytes", y.sheet(s, 0), 0);
            due("eighty bytes", y.sheet(s, 80), 80);
            due("0 at first", y.get(s, 79), 0);
        }
        due("there is no sheet 2", y.sheet(2, 1), BAD);
        says(TERMS, "SLOTS 0 .. 3 are EMPTY (at first) or keep M, Q, WEIGHTS and WIDTH");
        for (int s = 0; s <= 3; s++) {
            due("empty at first", y.take(s), NULL);
            due("kept", y.keep(s), s + 1);
        }
        due("there is no slot 4", y.keep(4), BAD);
        due("M, Q, width", counts(y, 0, 1, 2), 2, 1, 2);
        due("weights", weights(y, 0), 1, 15, 0, 0, 0);
        set(y, 5, 3, 6);
        y.take(3);
        due("M, Q, width again", counts(y, 0, 1, 2), 2, 1, 2);
        due("weights again", weights(y, 0), 1, 15, 0, 0, 0);
    }

    private static void refusals() {
        says(TERMS, "FINDINGS (answers -10 less the number; they change nothing but count() 8)");
        finds("one", x -> x.take(1), -11);
        says(TERMS, "1 NULL: the CRATE, the SHEET is LOST, the SLOT EMPTY, the place has NOTHING");
        finds("the crate is lost", x -> x.lose(3), -11);
        finds("the sheet is lost", x -> x.write(1), -11);
        finds("the slot is empty", x -> x.drop(1), -11);
        finds("the place has nothing", x -> x.held(0, 1, 0), -11);
        says(TERMS, "2 INDEX: there is no such place");
        finds("behind the last place", x -> x.held(0, 4, 0), -12);
        finds("ahead of the first byte", x -> x.lay(0, -1, 0), -12);
        says(TERMS, "3 STORE: a NODE is not for a CRATE of that FORM");
        finds("a split one among leaves", x -> x.hold(1, 0, 0, 0), -13);
        finds("a leaf among split ones", x -> x.hold(2, 0, 0, 9), -13);
        says(TERMS, "4 SIZE: below 0");
        finds("of a crate", x -> x.crate(0, 0, -1), -14);
        finds("of a sheet", x -> x.sheet(0, -1), -14);
        says(TERMS, "Refusals, the first that fits, in the order told at each act: BAD -2 (a number not as told, no such thing), NULL, NOT -3 (as told), FULL -4, OVER -5, a FAULT (-1000 less it), other FINDINGS");
        refused("BAD ahead of NULL", x -> x.hold(3, 0, 2, 0), BAD);
        finds("NULL ahead of INDEX", x -> x.held(3, 99, 0), NULL);
        refused("BAD ahead of NOT", x -> x.weight(0, 2, 15), BAD);
        refused("BAD ahead of FULL", x -> typeTimes(x, 80, 0), x -> x.type(3), BAD);
        refused("BAD ahead of OVER", x -> typeTimes(x, 80, 0), x -> x.likely(2), BAD_LONG);
        refused("BAD ahead of SIZE", x -> x.crate(4, 0, -1), BAD);
        refused("a FAULT ahead of FULL", x -> {
            putTimes(x, 79, 0);
            x.put(79, 63);
        }, PhraseTrees::decode, -1079);
        says(TERMS, "They change nothing (FINDINGS but count() 8)");
        refused("BAD", x -> x.letters(6, 1), BAD);
        refused("NOT", x -> x.width(1), NOT);
        refused("FULL", x -> putTimes(x, 80, 0), PhraseTrees::decode, FULL);
        refused("OVER", x -> typeTimes(x, 80, 0), x -> x.likely(0), OVER_LONG);
        refused("a FAULT", x -> x.rest(1), PhraseTrees::decode, -1000);
        finds("a FINDING", x -> x.hold(0, 4, 0, 0), INDEX);
        says(TERMS, "Where the answer is a long, a refusal -x is the least long and x more");
        due("BAD of chance", new PhraseTrees().chance(0, 0, 2), Long.MIN_VALUE + 2);
        due("BAD of expected", new PhraseTrees().expected(0, 4), Long.MIN_VALUE + 2);
        due("BAD of likely", new PhraseTrees().likely(2), Long.MIN_VALUE + 2);
        due("OVER of likely", made(x -> typeTimes(x, 16, 0)).likely(0), Long.MIN_VALUE + 5);
    }
}
