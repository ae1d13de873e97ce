/** Boundary cases of promises 24 to 26: slots. */
final class EdgesOfSlots extends Edges {
    static void run() {
        keep();
        take();
        drop();
    }

    private static void keep() {
        says(24, "M, Q, WEIGHTS and WIDTH are kept: how many SLOTS are not EMPTY");
        PhraseTrees x = new PhraseTrees();
        for (int s = 3; s >= 0; s--) {
            due("slot " + s, x.keep(s), 4 - s);
        }
        due("one that is kept already", x.keep(2), 4);
        PhraseTrees y = made(Edges::rich);
        long before = y.digest();
        due("a third", y.keep(1), 3);
        due("all else stays", y.digest(), before);
        set(y, 2, 1, 1);
        due("over one that is kept", y.keep(1), 3);
        y.letters(2, 3);
        y.take(1);
        due("what it keeps then", counts(y, 0, 1, 2), 2, 1, 1);
        due("the others keep what they kept", y.take(0), 14);
        // what is kept is as it was then
        PhraseTrees z = of(5, 3, 6);
        z.weight(2, 3, 6);
        z.keep(3);
        z.weight(2, 3, 1);
        z.width(3);
        z.take(3);
        due("the last weight of the last state", weights(z, 2), 3, 3, 3, 6, 1);
        due("width", z.count(2), 6);
        says(24, "BAD");
        refusedOutside("slot", 0, 3, (w, v) -> w.keep(v), BAD);
    }

    private static void take() {
        says(25, "What a SLOT keeps is so again (THE TEXT, THE CODE are empty then, REST 0)");
        PhraseTrees x = made(Edges::rich);
        x.rest(4);
        x.take(2);
        due("M, Q, width as they are", counts(x, 0, 1, 2), 3, 2, 3);
        due("text, code, rest", counts(x, 3, 4, 5), 0, 0, 0);
        due("crates stay", x.count(7), 3);
        due("sheets stay", x.get(0, 4), 3);
        x.take(0);
        due("the other slot", weights(x, 0), 9, 5, 2, 0, 0);
        due("its other state", weights(x, 1), 5, 5, 6, 0, 0);
        x.weight(0, 0, 1);
        x.take(0);
        due("again, whatever was told since", weights(x, 0), 9, 5, 2, 0, 0);
        due("its trees", x.chance(0, 1, 0), 9);
        x.take(2);
        due("the other's: 22 has 8 by 3", x.chance(1, 9, 1), 32);
        x.take(0);
        due("its own again: 22 has 6 by 2", x.chance(1, 9, 1), 64);
        // M and width come together: that there are two words now does not hinder five letters
        PhraseTrees y = of(5, 1, 6);
        y.keep(0);
        set(y, 2, 1, 1);
        due("five letters from a bit", y.take(0), 61);
        y.keep(1);
        set(y, 2, 1, 1);
        y.keep(2);
        y.take(1);
        due("and back to two", y.take(2), 2);
        says(25, "how many LEAVES all TREES have together");
        due("the greatest", made(z -> {
            set(z, 4, 3, 6);
            z.keep(3);
            z.letters(2, 1);
        }).take(3), 192);
        due("the least", made(z -> {
            set(z, 2, 1, 1);
            z.keep(0);
            z.width(6);
        }).take(0), 2);
        says(25, "BAD");
        refusedOutside("slot", 0, 3, (w, v) -> w.take(v), BAD);
        says(25, "NULL");
        finds("an empty one", z -> z.take(1), NULL);
        finds("the last", z -> z.take(3), NULL);
        finds("one that was dropped", z -> {
            rich(z);
            z.drop(0);
        }, z -> z.take(0), NULL);
    }

    private static void drop() {
        says(26, "A SLOT is EMPTY: how many are not");
        PhraseTrees x = new PhraseTrees();
        for (int s = 0; s <= 3; s++) {
            x.keep(s);
        }
        long before = x.digest();
        for (int s = 0; s <= 3; s++) {
            due("slot " + s, x.drop(s), 3 - s);
            due("it is empty", x.take(s), NULL);
        }
        due("all else stays", x.digest(), before);
        due("kept anew", x.keep(3), 1);
        says(26, "BAD");
        refusedOutside("slot", 0, 3, (w, v) -> w.drop(v), BAD);
        says(26, "NULL");
        finds("an empty one", z -> z.drop(1), NULL);
        finds("twice", z -> {
            rich(z);
            z.drop(2);
        }, z -> z.drop(2), NULL);
    }
}
