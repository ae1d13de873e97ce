/** Boundary cases of promises 1 to 10: a new object; letters, states, trees. */
final class EdgesOfLetters extends Edges {
    static void run() {
        newObject();
        letters();
        width();
        weight();
        tree();
        node();
        chance();
        bits();
        expected();
        longRun();
    }

    private static void newObject() {
        says(1, "M 3, Q 1, WIDTH 3");
        due("M, Q, width", counts(new PhraseTrees(), 0, 1, 2), 3, 1, 3);
        due("its leaves", new PhraseTrees().count(6), 7);
        says(1, "THE TEXT, THE CODE are empty");
        PhraseTrees x = new PhraseTrees();
        due("text, code, rest", counts(x, 3, 4, 5), 0, 0, 0);
        due("no letter", x.letter(0), BAD);
        due("no word", x.code(0), BAD);
        due("nothing wiped", x.wipe(), 0);
        due("no fault", x.fault(), NONE);
        says(1, "CRATES, SHEETS are LOST, SLOTS EMPTY");
        due("crates that are not lost", x.count(7), 0);
        due("no finding yet", x.count(8), 0);
        for (int k = 0; k <= 3; k++) {
            due("crate " + k, x.lose(k), NULL);
            due("slot " + k, x.take(k), NULL);
            due("slot " + k + " dropped", x.drop(k), NULL);
        }
        due("sheet 0", x.read(0), NULL);
        due("sheet 1", x.read(1), NULL);
        PhraseTrees other = made(Edges::rich);
        due("another object is not as this one", other.digest() != x.digest());
        due("and it shares nothing with a new one", new PhraseTrees().digest(), x.digest());
    }

    private static void letters() {
        says(2, "M, Q (THE TEXT, THE CODE are empty then, REST 0)");
        PhraseTrees x = made(Edges::rich);
        x.rest(3);
        x.letters(4, 3);
        due("M, Q, width stays", counts(x, 0, 1, 2), 4, 3, 3);
        due("text, code, rest", counts(x, 3, 4, 5), 0, 0, 0);
        due("crates stay", x.count(7), 3);
        due("nodes in them stay", x.held(0, 2, 0), 1);
        due("sheets stay", x.get(0, 3), -7);
        due("slots stay", x.drop(0), 1);
        PhraseTrees same = made(Edges::rich);
        same.letters(3, 2);
        due("the same M and Q: text, code, rest", counts(same, 3, 4, 5), 0, 0, 0);
        due("the same M and Q: weights", weights(same, 0), 5, 5, 6, 0, 0);
        says(2, "how many LEAVES all TREES have together");
        int[][] leaves = {{8, 7, 7, 5}, {64, 63, 64, 61}};
        for (int m = 2; m <= 5; m++) {
            for (int q = 1; q <= 3; q++) {
                due("by 3 bits, " + m + ", " + q, new PhraseTrees().letters(m, q), q * leaves[0][m - 2]);
                due("by 6 bits, " + m + ", " + q, made(y -> y.width(6)).letters(m, q), q * leaves[1][m - 2]);
            }
        }
        PhraseTrees narrow = of(2, 1, 1);
        due("by a bit", narrow.letters(2, 3), 6);
        says(2, "BAD");
        refusedOutside("M", 2, 5, (y, v) -> y.letters(v, 1), BAD);
        refusedOutside("Q", 1, 3, (y, v) -> y.letters(3, v), BAD);
        refused("neither", y -> y.letters(0, 0), BAD);
        refused("M ahead of NOT", y -> set(y, 2, 1, 1), y -> y.letters(6, 1), BAD);
        refused("Q ahead of NOT", y -> set(y, 2, 1, 1), y -> y.letters(5, 4), BAD);
        says(2, "NOT: there are fewer WORDS of WIDTH bits than M");
        refused("three of two", y -> set(y, 2, 2, 1), y -> y.letters(3, 1), NOT);
        refused("five of four", y -> set(y, 3, 2, 2), y -> y.letters(5, 1), NOT);
        due("two of two", of(2, 1, 1).letters(2, 1), 2);
        due("four of four", of(2, 1, 2).letters(4, 1), 4);
        due("five of eight", of(2, 1, 3).letters(5, 1), 5);
    }

    private static void width() {
        says(3, "WIDTH: what it was (THE CODE is empty then, REST 0)");
        PhraseTrees x = made(Edges::rich);
        due("the least for three letters", x.width(2), 3);
        due("it", x.count(2), 2);
        due("code, rest", counts(x, 4, 5), 0, 0);
        due("the text stays", text(x), 2, 0, 1);
        due("weights stay", weights(x, 0), 9, 4, 3, 0, 0);
        due("the greatest", x.width(6), 2);
        due("leaves by it", x.count(6), 126);
        PhraseTrees same = made(Edges::rich);
        same.rest(2);
        due("the same", same.width(3), 3);
        due("the same: code, rest", counts(same, 4, 5), 0, 0);
        says(3, "BAD");
        refusedOutside("width", 1, 6, (y, v) -> y.width(v), BAD);
        // 1 shifted by these is 2, 8, 64 again
        refused("33", y -> y.width(33), BAD);
        refused("35", y -> y.width(35), BAD);
        refused("-26", y -> y.width(-26), BAD);
        says(3, "NOT: there are fewer WORDS of that many bits than M");
        refused("two for three", y -> y.width(1), NOT);
        refused("two for four", y -> set(y, 4, 1, 2), y -> y.width(1), NOT);
        refused("four for five", y -> set(y, 5, 3, 3), y -> y.width(2), NOT);
        due("two for two", of(2, 1, 6).width(1), 6);
        due("four for four", of(4, 1, 6).width(2), 6);
        due("eight for five", of(5, 1, 6).width(3), 6);
    }

    private static void weight() {
        says(4, "WEIGHT of a LETTER, not the last, in a STATE: what it was (THE CODE is empty then, REST 0)");
        PhraseTrees x = made(Edges::rich);
        x.rest(1);
        due("what it was", x.weight(1, 0, 1), 5);
        due("weights of the state", weights(x, 1), 1, 3, 12, 0, 0);
        due("not of the other", weights(x, 0), 9, 4, 3, 0, 0);
        due("code, rest", counts(x, 4, 5), 0, 0);
        due("the text stays", text(x), 2, 0, 1);
        PhraseTrees same = made(Edges::rich);
        due("the same", same.weight(0, 0, 9), 9);
        due("the same: code, rest", counts(same, 4, 5), 0, 0);
        due("the last letter but one", of(5, 3, 3).weight(2, 3, 1), 3);
        PhraseTrees grown = new PhraseTrees();
        due("2 is split", grown.node(0, 6, 10), 3);
        grown.weight(0, 0, 9);
        due("trees are grown anew: 2 is a leaf", letters(grown, 0, 9) + grown.node(0, 9, 10), "20");
        due("its chance", grown.chance(0, 9, 0), 1);
        says(4, "BAD: STATE, LETTER, WEIGHT");
        refusedOutside("state", 0, 1, (y, v) -> y.weight(v, 0, 5), BAD);
        refusedOutside("letter", 0, 1, (y, v) -> y.weight(0, v, 1), BAD);
        refusedOutside("weight", 1, 15, (y, v) -> y.weight(0, 0, v), BAD);
        refused("the last letter of two", y -> set(y, 2, 1, 1), y -> y.weight(0, 1, 8), BAD);
        refused("the last letter of five", y -> set(y, 5, 1, 3), y -> y.weight(0, 4, 4), BAD);
        refused("16 of two letters is no weight", y -> set(y, 2, 1, 1), y -> y.weight(0, 0, 16), BAD);
        says(4, "NOT: nothing would be left for the last");
        due("1 is left of two", of(2, 1, 1).weight(0, 0, 15), 8);
        refused("0 is left", y -> y.weight(0, 0, 12), NOT);
        due("1 is left", made(Edges::rich).weight(0, 0, 11), 9);
        refused("less than 0 is left", y -> y.weight(0, 0, 15), NOT);
        refused("0 is left of five", y -> set(y, 5, 1, 3), y -> y.weight(0, 3, 7), NOT);
        due("1 is left of five", of(5, 1, 3).weight(0, 3, 6), 3);
    }

    private static void tree() {
        says(5, "Of a TREE LEAVES (what = 0), NODES (1), how many LETTERS its longest LEAF has (2)");
        PhraseTrees least = of(2, 1, 1);
        due("the least", new int[] {least.tree(0, 0), least.tree(0, 1), least.tree(0, 2)}, 2, 3, 1);
        PhraseTrees most = of(2, 3, 6);
        most.weight(2, 0, 15);
        most.weight(0, 0, 15);
        due("the greatest", new int[] {most.tree(2, 0), most.tree(2, 1), most.tree(2, 2)}, 64, 127, 8);
        due("the state next to it", new int[] {most.tree(1, 0), most.tree(1, 1), most.tree(1, 2)}, 64, 127, 8);
        due("all of six letters", of(2, 1, 6).tree(0, 2), 6);
        says(5, "WEIGHT of LETTER 0 (3), and so on (up to 7; 0: no such LETTER)");
        due("two letters", weights(of(2, 1, 3), 0), 8, 8, 0, 0, 0);
        due("five letters", weights(of(5, 1, 3), 0), 3, 3, 3, 3, 4);
        PhraseTrees fewer = of(5, 1, 3);
        fewer.letters(3, 1);
        due("letters that are no more", weights(fewer, 0), 5, 5, 6, 0, 0);
        says(5, "BAD");
        refusedOutside("state", 0, 1, (y, v) -> y.tree(v, 0), BAD);
        refusedOutside("state of weights", 0, 1, (y, v) -> y.tree(v, 3), BAD);
        refusedOutside("what", 0, 7, (y, v) -> y.tree(0, v), BAD);
    }

    private static void node() {
        says(6, "Of NODE i of a TREE how many LETTERS (what = 0)");
        PhraseTrees x = made(EdgesOfTerms::eights);
        due("the root", x.node(0, 0, 0), 0);
        due("the most", x.node(0, 8, 0), 8);
        says(6, "the WORD (1; NONE: it is SPLIT)");
        due("the root", x.node(0, 0, 1), NONE);
        due("the last that is split on the way", x.node(0, 7, 1), NONE);
        due("the first leaf", x.node(0, 8, 1), 0);
        due("the last node", x.node(0, 30, 1), 15);
        says(6, "the LETTERS themselves (2 to 9; NONE: no more)");
        due("the root has none", x.node(0, 0, 2), NONE);
        due("the first of one", x.node(0, 1, 2), 0);
        due("no second", x.node(0, 1, 3), NONE);
        due("the eighth of eight", x.node(0, 9, 9), 1);
        due("the seventh of eight", x.node(0, 9, 8), 0);
        due("no eighth of seven", x.node(0, 7, 9), NONE);
        says(6, "how many NODES go on with it (10)");
        due("all but the root itself", x.node(0, 0, 10), 30);
        due("of a leaf none", x.node(0, 8, 10), 0);
        due("of the last that is split two", x.node(0, 7, 10), 2);
        due("of the greatest tree", of(2, 1, 6).node(0, 0, 10), 126);
        says(6, "BAD: the least int");
        refusedOutside("state", 0, 1, (y, v) -> y.node(v, 0, 0), LEAST);
        refusedOutside("node", 0, 9, (y, v) -> y.node(1, v, 0), LEAST);
        refusedOutside("what", 0, 10, (y, v) -> y.node(0, 9, v), LEAST);
        refused("a node of a tree that was wider", y -> {
            set(y, 3, 1, 6);
            y.node(0, 93, 0);
            y.width(3);
        }, y -> y.node(0, 10, 0), LEAST);
    }

    private static void chance() {
        says(7, "CHANCE of NODE i of a TREE in lowest terms: above (what = 0), below (1)");
        PhraseTrees x = made(EdgesOfTerms::eights);
        due("the root, above", x.chance(0, 0, 0), 1);
        due("the root, below", x.chance(0, 0, 1), 1);
        due("15 to the 8, no lower", x.chance(0, 8, 0), 2562890625L);
        due("16 to the 8, more than an int", x.chance(0, 8, 1), 4294967296L);
        PhraseTrees y = of(2, 1, 6);
        due("1/64 above", y.chance(0, 126, 0), 1);
        due("1/64 below", y.chance(0, 126, 1), 64);
        PhraseTrees z = new PhraseTrees();
        due("36/256 above", z.chance(0, 9, 0), 9);
        due("36/256 below", z.chance(0, 9, 1), 64);
        says(7, "BAD");
        refusedOutside("state", 0, 1, (w, v) -> w.chance(v, 0, 0), BAD_LONG);
        refusedOutside("node", 0, 9, (w, v) -> w.chance(1, v, 1), BAD_LONG);
        refusedOutside("what", 0, 1, (w, v) -> w.chance(0, 9, v), BAD_LONG);
    }

    private static void bits() {
        says(8, "CHANCE of NODE i as a float, its bits as an int (floatToIntBits)");
        PhraseTrees x = made(EdgesOfTerms::eights);
        due("1", x.bits(0, 0), 0x3F800000);
        for (int i = 0; i <= 30; i++) {
            float due = (float) ((double) x.chance(0, i, 0) / (double) x.chance(0, i, 1));
            due("node " + i, x.bits(0, i), Float.floatToIntBits(due));
        }
        due("1/64", of(2, 1, 6).bits(0, 126), 0x3C800000);
        says(8, "BAD: 0");
        refusedOutside("state", 0, 1, (y, v) -> y.bits(v, 0), 0);
        refusedOutside("node", 0, 9, (y, v) -> y.bits(1, v), 0);
    }

    private static void expected() {
        says(9, "EXPECTED of a TREE: above (what = 0), below (1), as a float its bits (2)");
        PhraseTrees one = of(5, 1, 3);
        due("1 above", one.expected(0, 0), 1);
        due("1 below", one.expected(0, 1), 1);
        due("1 as a float", one.expected(0, 2), 0x3F800000);
        // 0 eight times has 15 to the 8 of 16 to the 8; a float has but 24 digits
        PhraseTrees x = made(EdgesOfTerms::eights);
        due("as a float, rounded", x.expected(0, 2),
                Float.floatToIntBits((float) ((double) x.expected(0, 0) / (double) x.expected(0, 1))));
        due("more digits than a float has", x.expected(0, 0) > 1 << 24);
        says(9, "that float by WIDTH, divided as floats, its bits (3)");
        due("1 by 3", one.expected(0, 3), Float.floatToIntBits(1f / 3f));
        due("1 by 1", of(2, 1, 1).expected(0, 3), 0x3F800000);
        due("6 by 6", of(2, 1, 6).expected(0, 3), 0x3F800000);
        due("the rounded one by 4", x.expected(0, 3),
                Float.floatToIntBits(Float.intBitsToFloat((int) x.expected(0, 2)) / 4f));
        for (int width = 2; width <= 6; width++) {
            PhraseTrees y = of(3, 1, width);
            due("by " + width, y.expected(0, 3),
                    Float.floatToIntBits(Float.intBitsToFloat((int) y.expected(0, 2)) / (float) width));
        }
        PhraseTrees narrower = of(3, 1, 6);
        narrower.expected(0, 0);
        narrower.width(3);
        due("by 3 bits, when it was told by 6 ahead of that", narrower.expected(0, 0), 27);
        says(9, "BAD");
        refusedOutside("state", 0, 1, (y, v) -> y.expected(v, 0), BAD_LONG);
        refusedOutside("what", 0, 3, (y, v) -> y.expected(0, v), BAD_LONG);
    }

    private static void longRun() {
        says(10, "LONG RUN: its bits (doubleToLongBits)");
        due("1.0", of(5, 3, 3).longRun(), 0x3FF0000000000000L);
        due("6.0", of(2, 2, 6).longRun(), Double.doubleToLongBits(6.0));
        PhraseTrees x = made(EdgesOfTerms::eights);
        due("one state", x.longRun(), Double.doubleToLongBits((double) x.expected(0, 0) / (double) x.expected(0, 1)));
        PhraseTrees y = new PhraseTrees();
        due("by 3 bits", y.longRun(), Double.doubleToLongBits(1.6875));
        y.width(2);
        due("then by 2", y.longRun(), 0x3FF0000000000000L);
        y.width(3);
        due("then by 3", y.longRun(), Double.doubleToLongBits(1.6875));
    }
}
