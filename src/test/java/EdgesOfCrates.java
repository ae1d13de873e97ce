import java.math.BigInteger;
import java.util.ArrayList;
import java.util.List;

/** Boundary cases of promises 27 to 37: crates, sheets, what is counted. */
final class EdgesOfCrates extends Edges {
    static void run() {
        crate();
        lose();
        hold();
        held();
        move();
        moveRefused();
        sheet();
        lay();
        get();
        write();
        count();
        digest();
    }

    /** Of the tree of a new object: the root and 0 are split, 00 and 1 are leaves. */
    private static final int ROOT = 0, SPLIT = 1, LEAF = 2, SHORT_LEAF = 5;
    private static final int SPLIT_BITS = Float.floatToIntBits(5f / 16f), LEAF_BITS = Float.floatToIntBits(25f / 256f);

    private static void crate() {
        says(27, "A CRATE is a new row of a FORM with n places: n");
        PhraseTrees x = new PhraseTrees();
        for (int form = 0; form <= 2; form++) {
            due("no places", x.crate(form, form, 0), 0);
            due("no first place", x.held(form, 0, 0), INDEX);
            due("one place", x.crate(form, form, 1), 1);
            due("twenty places", x.crate(form, form, 20), 20);
            due("the last place", x.held(form, 19, 0), NULL);
            due("no 21st", x.held(form, 20, 0), INDEX);
        }
        due("the last crate", x.crate(3, 2, 1), 1);
        due("all four", x.count(7), 4);
        x.hold(3, 0, 0, ROOT);
        due("anew, of another form", x.crate(3, 1, 20), 20);
        due("with nothing in it", x.held(3, 0, 0), NULL);
        due("the form is the new one", x.hold(3, 0, 0, ROOT), STORE);
        x.hold(3, 19, 0, LEAF);
        x.crate(3, 1, 2);
        x.crate(3, 1, 20);
        due("nothing comes back of what it had", x.held(3, 19, 0), NULL);
        says(27, "BAD: CRATE, FORM, above 20");
        refusedOutside("crate", 0, 3, (y, v) -> y.crate(v, 0, 1), BAD);
        refusedOutside("form", 0, 2, (y, v) -> y.crate(0, v, 1), BAD);
        for (int n : new int[] {21, 22, 256, MOST}) {
            refused("places " + n, y -> y.crate(0, 0, n), BAD);
        }
        refused("crate ahead of SIZE", y -> y.crate(-1, 0, -1), BAD);
        refused("form ahead of SIZE", y -> y.crate(0, 3, -1), BAD);
        says(27, "SIZE");
        finds("-1", y -> y.crate(0, 0, -1), SIZE);
        finds("the least", y -> y.crate(1, 1, LEAST), SIZE);
        finds("of a lost one", y -> y.crate(3, 2, -1), SIZE);
    }

    private static void lose() {
        says(28, "A CRATE is LOST: how many places it had");
        PhraseTrees x = new PhraseTrees();
        for (int c = 0; c <= 3; c++) {
            x.crate(c, 0, c == 0 ? 0 : c == 3 ? 20 : c);
        }
        due("no places", x.lose(0), 0);
        due("one", x.lose(1), 1);
        due("the others stay", x.count(7), 2);
        due("twenty", x.lose(3), 20);
        due("it is lost", x.held(3, 0, 0), NULL);
        x.crate(3, 0, 20);
        due("and made anew", x.held(3, 19, 0), NULL);
        says(28, "BAD");
        refusedOutside("crate", 0, 3, (y, v) -> y.lose(v), BAD);
        says(28, "NULL");
        finds("a lost one", y -> y.lose(3), NULL);
        finds("twice", y -> {
            rich(y);
            y.lose(0);
        }, y -> y.lose(0), NULL);
    }

    private static void hold() {
        says(29, "NODE j of TREE q comes to a place of a CRATE: 1");
        PhraseTrees x = of(2, 3, 6);
        x.crate(3, 0, 20);
        due("the first place, the root", x.hold(3, 0, 0, 0), 1);
        due("the last place, the last node of the last tree", x.hold(3, 19, 2, 126), 1);
        due("six letters", held(x, 3, 19), 6, 1, Float.floatToIntBits(1f / 64f));
        due("over one that is there", x.hold(3, 0, 2, 126), 1);
        due("it", x.held(3, 0, 0), 6);
        due("no place else", x.held(3, 1, 0), NULL);
        says(29, "BAD: CRATE, TREE, NODE");
        refusedOutside("crate", 0, 3, (y, v) -> y.hold(v, 0, 0, 0), BAD);
        refusedOutside("tree", 0, 1, (y, v) -> y.hold(0, 0, v, 0), BAD);
        refusedOutside("node", 0, 9, (y, v) -> y.hold(0, 0, 1, v), BAD);
        refused("tree ahead of NULL", y -> y.hold(3, 0, 2, 0), BAD);
        refused("node ahead of NULL", y -> y.hold(3, 0, 0, 10), BAD);
        refused("node ahead of INDEX", y -> y.hold(0, 4, 0, 10), BAD);
        says(29, "NULL");
        finds("lost", y -> y.hold(3, 0, 0, 0), NULL);
        finds("ahead of INDEX", y -> y.hold(3, -1, 0, 0), NULL);
        says(29, "INDEX");
        findsNoPlace("place", 4, (y, v) -> y.hold(0, v, 0, 0), INDEX);
        finds("of no places", y -> y.crate(0, 0, 0), y -> y.hold(0, 0, 0, 0), INDEX);
        finds("behind twenty", y -> y.crate(0, 0, 20), y -> y.hold(0, 20, 0, 0), INDEX);
        finds("ahead of STORE", y -> y.hold(1, 3, 0, 0), INDEX);
        finds("below 0, ahead of STORE", y -> y.hold(2, -1, 0, 9), INDEX);
        says(29, "STORE");
        finds("the root among leaves", y -> y.hold(1, 0, 0, 0), STORE);
        finds("over a leaf that is there", y -> y.hold(1, 1, 0, 0), STORE);
        finds("a leaf among split ones", y -> y.hold(2, 0, 1, 9), STORE);
        finds("split by 3 bits, a leaf by 2", y -> {
            y.width(2);
            y.crate(2, 2, 1);
        }, y -> y.hold(2, 0, 0, SPLIT), STORE);
    }

    private static void held() {
        says(30, "Of the NODE at a place how many LETTERS (what = 0), whether it was a LEAF (1: 1, 0), bits() of it (2)");
        PhraseTrees x = new PhraseTrees();
        x.crate(0, 0, 3);
        x.hold(0, 0, 0, ROOT);
        x.hold(0, 1, 0, SPLIT);
        x.hold(0, 2, 0, LEAF);
        due("no letters", held(x, 0, 0), 0, 0, 0x3F800000);
        due("a split one", held(x, 0, 1), 1, 0, SPLIT_BITS);
        due("a leaf", held(x, 0, 2), 2, 1, LEAF_BITS);
        PhraseTrees y = made(EdgesOfTerms::eights);
        y.crate(0, 1, 1);
        y.hold(0, 0, 0, 8);
        due("eight letters", held(y, 0, 0), 8, 1, y.bits(0, 8));
        says(30, "BAD: CRATE, what");
        refusedOutside("crate", 0, 3, (z, v) -> z.held(v, 0, 0), BAD);
        refusedOutside("what", 0, 2, (z, v) -> z.held(0, 0, v), BAD);
        refused("what ahead of NULL", z -> z.held(3, 0, 3), BAD);
        refused("what ahead of INDEX", z -> z.held(0, 4, -1), BAD);
        refused("what ahead of NOTHING", z -> z.held(0, 1, 3), BAD);
        says(30, "NULL: LOST");
        finds("lost", z -> z.held(3, 0, 0), NULL);
        finds("ahead of INDEX", z -> z.held(3, 20, 2), NULL);
        says(30, "INDEX");
        findsNoPlace("place", 4, (z, v) -> z.held(0, v, 0), INDEX);
        finds("of no places", z -> z.crate(1, 1, 0), z -> z.held(1, 0, 0), INDEX);
        finds("behind twenty", z -> z.crate(1, 1, 20), z -> z.held(1, 20, 0), INDEX);
        says(30, "NULL: NOTHING");
        for (int what = 0; what <= 2; what++) {
            int w = what;
            finds("what " + what, z -> z.held(0, 1, w), NULL);
        }
        finds("the last of twenty", z -> z.crate(1, 1, 20), z -> z.held(1, 19, 0), NULL);
    }

    /** Sizes 0, 1, 2, 1 and NOTHING; the first two are split. */
    private static PhraseTrees five() {
        return made(x -> {
            x.crate(0, 0, 5);
            x.hold(0, 0, 0, ROOT);
            x.hold(0, 1, 0, SPLIT);
            x.hold(0, 2, 0, LEAF);
            x.hold(0, 3, 0, SHORT_LEAF);
        });
    }

    private static void move() {
        says(31, "What n places of CRATE c have, from i on, comes to CRATE d");
        PhraseTrees x = five();
        x.crate(3, 0, 20);
        due("all, to the end", x.move(0, 0, 3, 15, 5), 5);
        due("the first of them", held(x, 3, 15), 0, 0, 0x3F800000);
        due("the third", held(x, 3, 17), 2, 1, LEAF_BITS);
        due("nothing comes too", x.held(3, 19, 0), NULL);
        due("none ahead of them", x.held(3, 14, 0), NULL);
        due("they are still there", sizes(x, 0, 5), 0, 1, 2, 1, NULL);
        x.hold(3, 4, 0, ROOT);
        x.move(0, 0, 3, 0, 5);
        due("nothing comes over one that is there", x.held(3, 4, 0), NULL);
        says(31, "(perhaps c, as they were)");
        PhraseTrees up = five();
        due("towards the end", up.move(0, 0, 0, 1, 4), 4);
        due("as they were", sizes(up, 0, 5), 0, 0, 1, 2, 1);
        due("leaves too", held(up, 0, 3), 2, 1, LEAF_BITS);
        PhraseTrees down = five();
        due("towards the beginning", down.move(0, 1, 0, 0, 4), 4);
        due("as they were there", sizes(down, 0, 5), 1, 2, 1, NULL, NULL);
        due("onto themselves", down.move(0, 0, 0, 0, 5), 5);
        due("stay", sizes(down, 0, 5), 1, 2, 1, NULL, NULL);
        PhraseTrees same = new PhraseTrees();
        same.crate(1, 1, 3);
        same.hold(1, 0, 0, LEAF);
        same.move(1, 0, 1, 1, 2);
        due("in a crate of leaves", sizes(same, 1, 3), 2, 2, NULL);
        says(31, "from j on, one by one: n");
        PhraseTrees y = five();
        y.crate(1, 0, 5);
        due("none", y.move(0, 0, 1, 0, 0), 0);
        due("one", y.move(0, 1, 1, 4, 1), 1);
        due("it alone", sizes(y, 1, 5), NULL, NULL, NULL, NULL, 1);
        says(31, "those ahead of one with STORE are there");
        PhraseTrees z = five();
        z.crate(1, 2, 4);
        z.hold(1, 2, 0, ROOT);
        due("the third is a leaf", z.move(0, 0, 1, 0, 4), STORE);
        due("two are there, the others as they were", sizes(z, 1, 4), 0, 1, 0, NULL);
        PhraseTrees w = five();
        w.crate(1, 1, 2);
        due("the first is not for leaves", w.move(0, 1, 1, 0, 2), STORE);
        due("none is there, not even one behind", sizes(w, 1, 2), NULL, NULL);
        PhraseTrees v = five();
        v.crate(1, 1, 3);
        v.move(0, 2, 1, 0, 3);
        v.crate(2, 2, 3);
        due("nothing ahead of a leaf", v.move(0, 4, 2, 0, 1) + v.move(1, 1, 2, 1, 1), 1 + STORE);
    }

    private static void moveRefused() {
        says(31, "BAD: CRATES");
        refusedOutside("c", 0, 3, (y, v) -> y.move(v, 0, 0, 0, 1), BAD);
        refusedOutside("d", 0, 3, (y, v) -> y.move(0, 0, v, 0, 1), BAD);
        refused("d ahead of NULL", y -> y.move(3, 0, 4, 0, 1), BAD);
        refused("c ahead of INDEX", y -> y.move(4, -1, 0, -1, -1), BAD);
        says(31, "NULL: c, d");
        finds("c", y -> y.move(3, 0, 0, 0, 1), NULL);
        finds("d", y -> y.move(0, 0, 3, 0, 1), NULL);
        finds("both", y -> y.move(3, 0, 3, 0, 0), NULL);
        finds("d, with n 0", y -> y.move(0, 0, 3, 0, 0), NULL);
        finds("d, ahead of INDEX", y -> y.move(0, 99, 3, 0, 1), NULL);
        finds("c, ahead of INDEX", y -> y.move(3, 0, 0, 0, -1), NULL);
        says(31, "INDEX: below 0, not so many");
        // crate 0 has four places, crate 1 has three
        finds("i below 0", y -> y.move(0, -1, 1, 0, 1), INDEX);
        finds("j below 0", y -> y.move(0, 1, 1, -1, 1), INDEX);
        finds("n below 0", y -> y.move(0, 1, 1, 0, -1), INDEX);
        finds("all the least", y -> y.move(0, LEAST, 1, LEAST, LEAST), INDEX);
        finds("one too many from 0", y -> y.move(0, 0, 0, 0, 5), INDEX);
        finds("one too many from c", y -> y.move(1, 1, 0, 0, 3), INDEX);
        finds("one too many for d", y -> y.move(0, 1, 1, 1, 3), INDEX);
        finds("one at the end of c", y -> y.move(0, 4, 1, 0, 1), INDEX);
        finds("one at the end of d", y -> y.move(0, 1, 1, 3, 1), INDEX);
        finds("i and n beyond ints", y -> y.move(0, 1, 0, 0, MOST), INDEX);
        finds("j and n beyond ints", y -> y.move(0, 0, 0, 1, MOST), INDEX);
        finds("i is the greatest", y -> y.move(0, MOST, 0, 0, 1), INDEX);
        finds("j is the greatest", y -> y.move(0, 0, 0, MOST, 1), INDEX);
        finds("ahead of STORE: none comes", y -> y.move(0, 0, 2, 0, 3), INDEX);
        says(31, "(with n 0, too, if i or j is above how many there are)");
        finds("i", y -> y.move(0, 5, 1, 0, 0), INDEX);
        finds("j", y -> y.move(0, 0, 1, 4, 0), INDEX);
        finds("i below 0", y -> y.move(0, -1, 1, 0, 0), INDEX);
        finds("j below 0", y -> y.move(0, 0, 1, -1, 0), INDEX);
        unchanged("both at the end", Edges::rich, y -> y.move(0, 4, 1, 3, 0), 0);
        unchanged("of no places", y -> y.crate(3, 2, 0), y -> y.move(3, 0, 3, 0, 0), 0);
        says(31, "STORE (NOTHING is for any)");
        finds("a split one for leaves", y -> y.move(0, 2, 1, 0, 1), STORE);
        finds("a leaf for split ones", y -> y.move(1, 1, 2, 0, 1), STORE);
        unchanged("n 0 of what is not for it", Edges::rich, y -> y.move(0, 2, 1, 0, 0), 0);
        PhraseTrees x = made(Edges::rich);
        due("NOTHING for split ones", x.move(1, 0, 2, 0, 1), 1);
        due("it came", x.held(2, 0, 0), NULL);
        due("NOTHING for leaves", x.move(2, 1, 1, 1, 1), 1);
        due("it came there", x.held(1, 1, 0), NULL);
        due("a leaf among any is for leaves", x.move(0, 0, 1, 2, 1), 1);
        due("a split one among any is for split ones", x.move(0, 2, 2, 1, 1), 1);
        due("both are there", new int[] {x.held(1, 2, 1), x.held(2, 1, 1)}, 1, 0);
    }

    private static void sheet() {
        says(32, "A SHEET is a new row of n bytes: n");
        PhraseTrees x = new PhraseTrees();
        for (int s = 0; s <= 1; s++) {
            due("none", x.sheet(s, 0), 0);
            due("no first", x.lay(s, 0, 1), INDEX);
            due("eighty", x.sheet(s, 80), 80);
            due("the 80th", x.lay(s, 79, 1), 1);
            due("the first", x.lay(s, 0, 1), 1);
            due("no 81st", x.lay(s, 80, 1), INDEX);
            due("fewer", x.sheet(s, 1), 1);
            due("no second", x.lay(s, 1, 1), INDEX);
            due("anew", x.sheet(s, 80), 80);
            due("nothing comes back of what it had", x.get(s, 79), 0);
            due("not of the first either", x.get(s, 0), 0);
        }
        says(32, "BAD: SHEET, above 80");
        refusedOutside("sheet", 0, 1, (y, v) -> y.sheet(v, 1), BAD);
        for (int n : new int[] {81, 82, 256, MOST}) {
            refused("bytes " + n, y -> y.sheet(0, n), BAD);
        }
        refused("sheet ahead of SIZE", y -> y.sheet(2, -1), BAD);
        says(32, "SIZE");
        finds("-1", y -> y.sheet(0, -1), SIZE);
        finds("the least", y -> y.sheet(0, LEAST), SIZE);
        finds("of a lost one", y -> y.sheet(1, -1), SIZE);
    }

    private static void lay() {
        says(33, "Byte i of a SHEET becomes v (its lowest bits, with its sign): 1");
        PhraseTrees x = new PhraseTrees();
        x.sheet(1, 80);
        int[] laid = {0, 1, 127, 128, 255, 256, 257, -1, -128, -129, -256, LEAST, MOST, 0x7F80};
        int[] due = {0, 1, 127, -128, -1, 0, 1, -1, -128, 127, 0, 0, -1, -128};
        for (int k = 0; k < laid.length; k++) {
            due("laid " + laid[k], x.lay(1, 79, laid[k]), 1);
            due("is", x.get(1, 79), due[k]);
        }
        due("the first", x.lay(1, 0, 5), 1);
        due("not its neighbours", x.get(1, 1) + x.get(1, 78), 0);
        says(33, "BAD");
        refusedOutside("sheet", 0, 1, (y, v) -> y.lay(v, 0, 1), BAD);
        refused("ahead of INDEX", y -> y.lay(2, 99, 1), BAD);
        says(33, "NULL");
        finds("lost", y -> y.lay(1, 0, 1), NULL);
        finds("ahead of INDEX", y -> y.lay(1, -1, 1), NULL);
        says(33, "INDEX");
        findsNoPlace("byte", 5, (y, v) -> y.lay(0, v, 1), INDEX);
        finds("of no bytes", y -> y.sheet(0, 0), y -> y.lay(0, 0, 1), INDEX);
        finds("behind eighty", y -> y.sheet(0, 80), y -> y.lay(0, 80, 1), INDEX);
    }

    private static void get() {
        says(34, "Byte i of a SHEET");
        unchanged("the first", Edges::rich, y -> y.get(0, 0), 1);
        unchanged("the last", Edges::rich, y -> y.get(0, 4), 3);
        unchanged("below 0", Edges::rich, y -> y.get(0, 3), -7);
        says(34, "BAD: the least int");
        refusedOutside("sheet", 0, 1, (y, v) -> y.get(v, 0), LEAST);
        refused("ahead of INDEX, so that count() 8 tells nothing", y -> y.get(2, 99), LEAST);
        says(34, "so are NULL, INDEX (count() 8 tells)");
        findsAs("lost", Edges::rich, y -> y.get(1, 0), NULL, LEAST);
        findsAs("lost, ahead of INDEX", Edges::rich, y -> y.get(1, -1), NULL, LEAST);
        findsNoPlace("byte", 5, (y, v) -> y.get(0, v), LEAST);
        findsAs("of no bytes", y -> y.sheet(0, 0), y -> y.get(0, 0), INDEX, LEAST);
        findsAs("behind eighty", y -> y.sheet(0, 80), y -> y.get(0, 80), INDEX, LEAST);
    }

    private static void write() {
        says(35, "WORDS of THE CODE come to a SHEET (of each the lowest bits that a byte has, with its sign) from byte 0 on");
        PhraseTrees x = new PhraseTrees();
        putAll(x, 62, 63, 7);
        x.sheet(0, 3);
        due("as many bytes as words", x.write(0), 3);
        due("they", new int[] {x.get(0, 0), x.get(0, 1), x.get(0, 2)}, 62, 63, 7);
        due("the code stays", code(x), 62, 63, 7);
        says(35, "as many as there are bytes, and WORDS: how many");
        x.sheet(0, 2);
        due("fewer bytes", x.write(0), 2);
        due("they are filled", x.get(0, 1), 63);
        x.sheet(1, 4);
        layAll(x, 1, 9, 9, 9, 9);
        due("more bytes", x.write(1), 3);
        due("the others stay", new int[] {x.get(1, 2), x.get(1, 3)}, 7, 9);
        x.sheet(0, 0);
        due("no bytes", x.write(0), 0);
        PhraseTrees y = new PhraseTrees();
        y.sheet(1, 80);
        y.lay(1, 0, 9);
        due("no words", y.write(1), 0);
        due("all bytes stay", y.get(1, 0), 9);
        putTimes(y, 79, 1);
        y.put(79, 63);
        due("eighty of both", y.write(1), 80);
        due("the last", y.get(1, 79), 63);
        says(35, "BAD");
        refusedOutside("sheet", 0, 1, (z, v) -> z.write(v), BAD);
        says(35, "NULL");
        finds("lost", z -> z.write(1), NULL);
        finds("the other, lost", z -> z.put(0, 1), z -> z.write(0), NULL);
    }

    private static void count() {
        says(36, "0 M, 1 Q, 2 WIDTH, 3 LETTERS of THE TEXT, 4 WORDS of THE CODE, 5 REST, 6 LEAVES of all TREES together");
        due("the least", counts(of(2, 1, 1), 0, 1, 2, 3, 4, 5, 6), 2, 1, 1, 0, 0, 0, 2);
        PhraseTrees x = of(5, 3, 6);
        typeTimes(x, 80, 4);
        putTimes(x, 80, 63);
        x.rest(8);
        due("the greatest", counts(x, 0, 1, 2, 3, 4, 5, 6), 5, 3, 6, 80, 80, 8, 183);
        due("the most leaves", of(2, 3, 6).count(6), 192);
        says(36, "7 CRATES that are not LOST");
        for (int c = 0; c <= 3; c++) {
            due("crates", x.count(7), c);
            x.crate(c, 0, 0);
        }
        due("all, though of no places", x.count(7), 4);
        x.crate(0, 1, 20);
        due("one anew is no more", x.count(7), 4);
        says(36, "8 the number of the latest FINDING (0 before any)");
        due("none", x.count(8), 0);
        x.hold(4, 0, 0, 0);
        x.letters(0, 0);
        x.type(0);
        x.likely(0);
        x.decode();
        due("other refusals are none", x.count(8), 0);
        x.crate(0, 0, -1);
        due("SIZE", x.count(8), 4);
        x.hold(0, 0, 0, 0);
        due("STORE", x.count(8), 3);
        x.hold(0, 20, 0, 0);
        due("INDEX", x.count(8), 2);
        x.take(0);
        due("NULL", x.count(8), 1);
        x.count(9);
        x.wipe();
        due("calls that find nothing leave it", x.count(8), 1);
        says(36, "BAD");
        refusedOutside("what", 0, 8, (y, v) -> y.count(v), BAD);
    }

    /** What digest() tells ahead of crates. */
    private static List<Long> told(PhraseTrees x) {
        List<Long> all = new ArrayList<>();
        for (int what = 0; what <= 7; what++) {
            all.add((long) x.count(what));
        }
        for (int q = 0; q < x.count(1); q++) {
            addTree(all, x, q);
        }
        all.add(x.longRun());
        addAll(all, text(x));
        addAll(all, code(x));
        addAll(all, x.fault(), x.best(0), x.best(1));
        all.add(x.likely(0));
        all.add(x.likely(1));
        return all;
    }

    private static void addTree(List<Long> all, PhraseTrees x, int q) {
        for (int what = 0; what <= 7; what++) {
            all.add((long) x.tree(q, what));
        }
        for (int what = 0; what <= 3; what++) {
            all.add(x.expected(q, what));
        }
        int nodes = x.tree(q, 1);
        for (int i = 0; i < nodes; i++) {
            for (int what = 0; what <= 10; what++) {
                all.add((long) x.node(q, i, what));
            }
            all.add(x.chance(q, i, 0));
            all.add(x.chance(q, i, 1));
            all.add((long) x.bits(q, i));
        }
    }

    private static void addAll(List<Long> all, int... more) {
        for (int v : more) {
            all.add((long) v);
        }
    }

    /** Whole numbers of any size, of which a long keeps the lowest 64 bits. */
    private static long digestOf(List<Long> all) {
        BigInteger h = BigInteger.valueOf(17);
        for (long v : all) {
            h = h.multiply(BigInteger.valueOf(31)).add(BigInteger.valueOf(v));
        }
        return h.longValue();
    }

    private static void dueDigest(String which, PhraseTrees x, int... crates) {
        List<Long> all = told(x);
        addAll(all, crates);
        due(which, x.digest(), digestOf(all));
    }

    private static void digest() {
        says(37, "h is 17");
        dueDigest("a bit, two letters, no text", of(2, 1, 1));
        says(37, "h becomes 31 h and each of (of each thing all that is told of it, then of the next one): count() 0 to 7");
        PhraseTrees x = new PhraseTrees();
        long before = x.digest();
        x.take(0);
        due("count() 8 is not told", x.digest(), before);
        x.sheet(0, 3);
        x.keep(0);
        due("nor are sheets and slots", x.digest(), before);
        x.rest(8);
        dueDigest("count() 5", x);
        says(37, "of TREES tree() 0 to 7, expected() 0 to 3, of NODES node() 0 to 10, chance() 0, 1, bits()");
        dueDigest("three trees", of(2, 3, 1));
        dueDigest("five letters", of(5, 1, 3));
        says(37, "longRun()");
        PhraseTrees z = of(2, 2, 2);
        z.weight(1, 0, 1);
        dueDigest("two states", z);
        says(37, "of THE TEXT letter()");
        PhraseTrees w = of(2, 1, 1);
        typeTimes(w, 80, 1);
        dueDigest("eighty letters", w);
        says(37, "of THE CODE code()");
        PhraseTrees v = of(2, 1, 1);
        putTimes(v, 80, 63);
        dueDigest("eighty words", v);
        says(37, "fault()");
        PhraseTrees u = of(2, 1, 1);
        putAll(u, 1, 0);
        dueDigest("none", u);
        u.rest(2);
        dueDigest("by the rest", u);
        says(37, "best() 0, 1");
        typeTimes(u, 15, 0);
        dueDigest("of fifteen letters", u);
        says(37, "likely() 0, 1");
        due("OVER", w.likely(0), OVER_LONG);
        dueDigest("OVER is told as it is answered", w);
        says(37, "of CRATES that are not LOST of places held() 0 to 2");
        dueDigest("no places", made(y -> y.crate(2, 0, 0)));
        Setup two = y -> {
            y.crate(3, 0, 2);
            y.crate(1, 0, 1);
            y.hold(3, 1, 0, LEAF);
        };
        dueDigest("NOTHING is told as held() answers it", made(two),
                NULL, NULL, NULL, NULL, NULL, NULL, 2, 1, LEAF_BITS);
        dueDigest("the first crate", made(y -> {
            two.on(y);
            y.crate(0, 2, 1);
            y.hold(0, 0, 0, SPLIT);
        }), 1, 0, SPLIT_BITS, NULL, NULL, NULL, NULL, NULL, NULL, 2, 1, LEAF_BITS);
        dueDigest("one lost", made(y -> {
            two.on(y);
            y.lose(1);
        }), NULL, NULL, NULL, 2, 1, LEAF_BITS);
        unchanged("not even count() 8, by NOTHING", y -> y.crate(0, 0, 1), y -> y.digest() - y.digest(), 0);
        says(37, "as longs that wrap");
        PhraseTrees most = made(Edges::rich);
        most.lose(0);
        most.lose(1);
        most.lose(2);
        dueDigest("of much", most);
    }
}
