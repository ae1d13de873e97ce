/** Boundary cases of promises 11 to 23: the text, the code. */
final class EdgesOfText extends Edges {
    static void run() {
        type();
        wipe();
        letter();
        read();
        encode();
        decode();
        code();
        put();
        rest();
        fault();
        harm();
        best();
        likely();
    }

    /** Two trees of two bits: 000 001 01 1 and 0 10 110 111. */
    private static void twoTrees(PhraseTrees x) {
        set(x, 2, 2, 2);
        x.weight(0, 0, 12);
        x.weight(1, 0, 1);
    }

    private static void fullText(PhraseTrees x) {
        rich(x);
        x.wipe();
        typeTimes(x, 80, 1);
    }

    private static void fullCode(PhraseTrees x) {
        rich(x);
        putTimes(x, 80 - x.count(4), 3);
    }

    private static void type() {
        says(11, "A LETTER comes behind THE TEXT: how many");
        PhraseTrees x = new PhraseTrees();
        due("the first", x.type(2), 1);
        due("the second", x.type(0), 2);
        due("behind", text(x), 2, 0);
        typeTimes(x, 77, 1);
        due("the 80th", x.type(2), 80);
        due("it is the last", x.letter(79), 2);
        x.put(0, 1);
        x.wipe();
        x.type(0);
        due("the code stays", x.count(4), 1);
        says(11, "BAD");
        refusedOutside("letter", 0, 2, (y, v) -> y.type(v), BAD);
        refused("letter 2 of two", y -> set(y, 2, 1, 1), y -> y.type(2), BAD);
        refused("letter 5 of five", y -> set(y, 5, 1, 3), y -> y.type(5), BAD);
        refused("ahead of FULL", EdgesOfText::fullText, y -> y.type(3), BAD);
        refused("below, ahead of FULL", EdgesOfText::fullText, y -> y.type(-1), BAD);
        says(11, "FULL");
        refused("the 81st", EdgesOfText::fullText, y -> y.type(0), FULL);
        PhraseTrees y = made(EdgesOfText::fullText);
        y.wipe();
        due("no more when wiped", y.type(0), 1);
    }

    private static void wipe() {
        says(12, "THE TEXT is empty: how many LETTERS it had");
        PhraseTrees x = new PhraseTrees();
        due("none", x.wipe(), 0);
        x.type(1);
        due("one", x.wipe(), 1);
        typeTimes(x, 80, 1);
        x.encode();
        x.rest(1);
        due("all eighty", x.wipe(), 80);
        due("text; code and rest stay", counts(x, 3, 4, 5), 0, 80, 1);
        due("twice", x.wipe(), 0);
        due("no letter is there", x.letter(0), BAD);
    }

    private static void letter() {
        says(13, "LETTER k of THE TEXT");
        PhraseTrees x = new PhraseTrees();
        for (int k = 0; k < 80; k++) {
            x.type(k % 3);
        }
        due("the first", x.letter(0), 0);
        due("the last", x.letter(79), 1);
        says(13, "BAD");
        refusedOutside("k of three", 0, 2, (y, v) -> y.letter(v), BAD);
        refused("behind eighty", EdgesOfText::fullText, y -> y.letter(80), BAD);
        refused("of an empty text", PhraseTrees::wipe, y -> y.letter(0), BAD);
        refused("what was wiped", y -> {
            fullText(y);
            y.wipe();
            y.type(0);
        }, y -> y.letter(1), BAD);
    }

    private static void read() {
        says(14, "THE TEXT becomes the bytes of a SHEET, as long as they are LETTERS: how many");
        PhraseTrees x = made(Edges::rich);
        x.rest(2);
        int words = x.count(4);
        due("up to one below 0", x.read(0), 3);
        due("its letters", text(x), 1, 2, 0);
        due("code and rest stay", counts(x, 4, 5), words, 2);
        x.lay(0, 1, 3);
        due("up to M", x.read(0), 1);
        x.lay(0, 0, 3);
        due("not one is a letter", x.read(0), 0);
        due("the text is empty", x.count(3), 0);
        x.lay(0, 0, 256);
        due("256 is laid as 0", x.read(0), 1);
        x.lay(0, 0, 127);
        due("127", x.read(0), 0);
        x.lay(0, 0, -128);
        due("-128", x.read(0), 0);
        x.sheet(1, 80);
        due("all eighty", x.read(1), 80);
        due("the last of them", x.letter(79), 0);
        x.sheet(1, 0);
        due("no bytes", x.read(1), 0);
        due("the text is empty then", x.count(3), 0);
        PhraseTrees y = of(5, 1, 3);
        y.sheet(1, 3);
        layAll(y, 1, 4, 5, 4);
        due("4 is one of five letters, 5 is not", y.read(1), 1);
        says(14, "BAD");
        refusedOutside("sheet", 0, 1, (z, v) -> z.read(v), BAD);
        says(14, "NULL");
        finds("a lost sheet", z -> z.read(1), NULL);
        finds("the other", z -> z.sheet(1, 3), z -> z.read(0), NULL);
    }

    private static void encode() {
        says(15, "THE TEXT, TOLD IN WORDS, is THE CODE: how many WORDS");
        PhraseTrees x = new PhraseTrees();
        due("no text", x.encode(), 0);
        fullCode(x);
        x.wipe();
        x.rest(8);
        due("no text, a full code ahead", x.encode(), 0);
        due("code, rest", counts(x, 4, 5), 0, 0);
        PhraseTrees y = of(3, 1, 2);
        typeTimes(y, 80, 2);
        due("eighty words of a letter", y.encode(), 80);
        due("the last", y.code(79), 2);
        due("no rest", y.count(5), 0);
        due("the text stays", y.count(3), 80);
        PhraseTrees z = new PhraseTrees();
        typeTimes(z, 79, 1);
        z.type(0);
        due("seventy-nine and a beginning", z.encode(), 80);
        due("the least word of it", z.code(79), 0);
        due("a rest of 1", z.count(5), 1);
        PhraseTrees w = made(EdgesOfText::twoTrees);
        typeAll(w, 1, 1, 1);
        due("a beginning in state 1", w.encode(), 2);
        due("11 begins 110 and 111 there", code(w), 3, 2);
        due("a rest of 2", w.count(5), 2);
        PhraseTrees v = made(EdgesOfTerms::eights);
        typeTimes(v, 80, 0);
        due("ten phrases of eight", v.encode(), 10);
        due("no rest of them", v.count(5), 0);
        v.decode();
        due("and back", v.count(3), 80);
    }

    private static void decode() {
        says(16, "THE CODE, TOLD BACK, is THE TEXT: how many LETTERS");
        PhraseTrees x = new PhraseTrees();
        typeTimes(x, 5, 1);
        due("no code", x.decode(), 0);
        due("the text is empty", x.count(3), 0);
        PhraseTrees y = of(3, 1, 2);
        putTimes(y, 80, 2);
        due("eighty of a letter", y.decode(), 80);
        due("the last", y.letter(79), 2);
        due("the code stays", y.count(4), 80);
        PhraseTrees v = made(EdgesOfTerms::eights);
        putTimes(v, 10, 0);
        due("ten of eight", v.decode(), 80);
        for (int r = 1; r <= 8; r++) {
            v.rest(r);
            due("the last of eight cut to " + r, v.decode(), 72 + r);
            due("the rest stays", v.count(5), r);
        }
        says(16, "FULL: they are more than 80");
        Setup nearly = z -> {
            rich(z);
            set(z, 3, 1, 3);
            typeAll(z, 2, 2);
            putTimes(z, 39, 0);
            putAll(z, 3, 4);
        };
        refused("81", nearly, PhraseTrees::decode, FULL);
        refused("81 by a rest of the whole phrase", z -> {
            nearly.on(z);
            z.rest(2);
        }, PhraseTrees::decode, FULL);
        PhraseTrees cut = made(nearly);
        cut.rest(1);
        due("80 by the rest", cut.decode(), 80);
        due("the last letter", cut.letter(79), 2);
        refused("640", z -> {
            EdgesOfTerms.eights(z);
            putTimes(z, 80, 0);
        }, PhraseTrees::decode, FULL);
        says(16, "FAULT (ahead of FULL)");
        refused("a word that is none, and too many letters ahead of it", z -> {
            putTimes(z, 60, 0);
            z.put(60, 7);
        }, PhraseTrees::decode, -1060);
        refused("a rest too long, and too many letters", z -> {
            putTimes(z, 80, 0);
            z.rest(3);
        }, PhraseTrees::decode, -1080);
        refused("a rest without words", z -> {
            z.type(1);
            z.rest(1);
        }, PhraseTrees::decode, -1000);
        refused("the first word", z -> putAll(z, 63, 63), PhraseTrees::decode, -1000);
    }

    private static void code() {
        says(17, "WORD k of THE CODE");
        PhraseTrees x = new PhraseTrees();
        putTimes(x, 79, 0);
        x.put(79, 63);
        x.put(0, 62);
        due("the first", x.code(0), 62);
        due("the last", x.code(79), 63);
        says(17, "BAD");
        refusedOutside("k of three", EdgesOfText::threeWords, 0, 2, (y, v) -> y.code(v), BAD);
        refused("of no words", y -> y.put(1, 0), y -> y.code(0), BAD);
        refused("behind eighty", EdgesOfText::fullCode, y -> y.code(80), BAD);
        refused("what was emptied", y -> {
            fullCode(y);
            y.width(3);
        }, y -> y.code(0), BAD);
    }

    private static void put() {
        says(18, "WORD k of THE CODE becomes v (0 to 63)");
        PhraseTrees x = made(EdgesOfText::threeWords);
        x.rest(1);
        due("the first", x.put(0, 0), 3);
        due("the last", x.put(2, 63), 3);
        due("the words", code(x), 0, 2, 63);
        due("text and rest stay", counts(x, 3, 5), 3, 1);
        due("the last of eighty", made(EdgesOfText::fullCode).put(79, 1), 80);
        says(18, "or, if there are just k, v comes behind: how many WORDS");
        due("behind", x.put(3, 63), 4);
        due("it", x.code(3), 63);
        due("the first of none", new PhraseTrees().put(0, 63), 1);
        PhraseTrees y = new PhraseTrees();
        putTimes(y, 79, 1);
        due("the 80th", y.put(79, 0), 80);
        says(18, "BAD");
        refusedOutside("k of three", EdgesOfText::threeWords, 0, 3, (z, v) -> z.put(v, 1), BAD);
        refusedOutside("v", EdgesOfText::threeWords, 0, 63, (z, v) -> z.put(1, v), BAD);
        refusedOutside("v behind", EdgesOfText::threeWords, 0, 63, (z, v) -> z.put(3, v), BAD);
        refused("k of none", z -> z.rest(1), z -> z.put(1, 1), BAD);
        refused("v ahead of FULL", EdgesOfText::fullCode, z -> z.put(80, 64), BAD);
        refused("k ahead of FULL", EdgesOfText::fullCode, z -> z.put(81, 0), BAD);
        refused("k below 0 of eighty", EdgesOfText::fullCode, z -> z.put(-1, 0), BAD);
        says(18, "FULL");
        refused("the 81st", EdgesOfText::fullCode, z -> z.put(80, 0), FULL);
        refused("the 81st, the greatest word", EdgesOfText::fullCode, z -> z.put(80, 63), FULL);
    }

    private static void rest() {
        says(19, "REST: what it was");
        PhraseTrees x = new PhraseTrees();
        due("at first", x.rest(8), 0);
        due("the greatest", x.rest(0), 8);
        due("the least", x.rest(0), 0);
        due("the same again", x.count(5), 0);
        PhraseTrees y = made(EdgesOfText::threeWords);
        y.rest(8);
        due("text and code stay, even with a fault", counts(y, 3, 4, 5), 3, 3, 8);
        says(19, "BAD");
        refusedOutside("rest", EdgesOfText::threeWords, 0, 8, (z, v) -> z.rest(v), BAD);
    }

    private static void fault() {
        says(20, "FAULT");
        PhraseTrees x = new PhraseTrees();
        x.rest(1);
        due("a rest, no words", x.fault(), 0);
        putTimes(x, 79, 6);
        x.put(79, 7);
        due("the last of eighty is none of seven", x.fault(), 79);
        x.put(0, 7);
        due("the first as well", x.fault(), 0);
        x.put(0, 0);
        x.put(79, 3);
        x.rest(2);
        due("a rest of 2 for the one letter of the 80th", x.fault(), 80);
        x.put(78, 63);
        due("a word ahead of the rest", x.fault(), 78);
        PhraseTrees all = of(2, 1, 6);
        all.put(0, 63);
        due("63 is one of 64", all.fault(), NONE);
        PhraseTrees five = of(5, 1, 6);
        five.put(0, 60);
        due("60 is one of 61", five.fault(), NONE);
        five.put(1, 61);
        due("61 is not", five.fault(), 1);
        says(20, "NONE");
        due("no words, no rest", new PhraseTrees().fault(), NONE);
        PhraseTrees y = made(EdgesOfTerms::eights);
        y.put(0, 0);
        y.rest(8);
        due("the greatest rest", y.fault(), NONE);
        y.put(1, 15);
        due("the last phrase counts alone", y.fault(), 2);
        PhraseTrees z = made(EdgesOfText::twoTrees);
        // 1 leads to state 1, where word 3 is 111; in state 0 it is 1
        putAll(z, 3, 3);
        z.rest(3);
        due("the last phrase by its state", z.fault(), NONE);
        z.put(0, 0);
        due("and by another", z.fault(), 2);
    }

    private static void harm() {
        says(21, "HARM");
        unchanged("the word that is there", EdgesOfText::threeWords, x -> x.harm(1, 2), 0);
        unchanged("the first word none", EdgesOfText::threeWords, x -> x.harm(0, 63), 3);
        unchanged("the last word none", EdgesOfText::threeWords, x -> x.harm(2, 7), 1);
        PhraseTrees x = new PhraseTrees();
        x.put(0, 0);
        due("the only one", x.harm(0, 6), 1);
        PhraseTrees y = made(EdgesOfText::fullEven);
        due("none of eighty", y.harm(79, 3), 0);
        due("one of eighty", y.harm(79, 0), 1);
        due("the first of eighty", y.harm(0, 0), 1);
        due("all of eighty", y.harm(0, 7), 80);
        due("from the middle on", y.harm(40, 63), 40);
        PhraseTrees z = made(EdgesOfText::twoTrees);
        // 1 110 000 1 0 becomes 01 110 000 1 0, or 000 01 0 1 0, which is in step again
        putAll(z, 3, 2, 0, 3, 0);
        due("another phrase to the same state", z.harm(0, 2), 1);
        due("to another state, until in step", z.harm(0, 0), 3);
        PhraseTrees letters = of(2, 2, 1);
        putAll(letters, 0, 1, 0);
        due("the same letters by another tree are the same", letters.harm(0, 1), 1);
        // a rest that the altered phrase is too short for is no harm of its own
        PhraseTrees w = made(EdgesOfText::threeWords);
        w.put(2, 0);
        w.rest(2);
        due("a rest too long then", w.harm(2, 3), 1);
        says(21, "BAD: k, v");
        refusedOutside("k", EdgesOfText::threeWords, 0, 2, (v, k) -> v.harm(k, 1), BAD);
        refusedOutside("v", EdgesOfText::threeWords, 0, 63, (v, word) -> v.harm(0, word), BAD);
        refused("of no words", v -> v.wipe(), v -> v.harm(0, 0), BAD);
        refused("k ahead of NOT", v -> v.put(0, 63), v -> v.harm(1, 0), BAD);
        refused("v ahead of NOT", v -> v.put(0, 63), v -> v.harm(0, 64), BAD);
        refused("no words, and a rest too long", v -> v.rest(1), v -> v.harm(0, 0), BAD);
        refused("behind eighty", EdgesOfText::fullEven, v -> v.harm(80, 0), BAD);
        says(21, "NOT: THE CODE has a FAULT");
        refused("even if v would mend it", v -> v.put(0, 7), v -> v.harm(0, 0), NOT);
        refused("behind k", v -> putAll(v, 0, 7), v -> v.harm(0, 0), NOT);
        refused("by the rest", v -> {
            v.put(0, 0);
            v.rest(3);
        }, v -> v.harm(0, 0), NOT);
    }

    private static void best() {
        says(22, "The WIDTH (1 to 6, with no fewer than M WORDS) by which THE TEXT, TOLD IN WORDS, has fewest bits");
        PhraseTrees x = of(2, 1, 6);
        typeAll(x, 1);
        due("a bit for one of two letters", x.best(0), 1);
        // by 6 bits 1212 is a phrase; by 2 bits it takes 8, by 3 9, by 4 8, by 5 10
        PhraseTrees y = of(3, 1, 2);
        typeAll(y, 1, 2, 1, 2);
        due("the greatest", y.best(0), 6);
        PhraseTrees z = of(5, 1, 6);
        typeAll(z, 4);
        due("three bits for one of five letters", z.best(0), 3);
        says(22, "(WORDS by WIDTH), of like ones the least (what = 0)");
        int[] least = {1, 2, 2, 3};
        for (int m = 2; m <= 5; m++) {
            due("no text of " + m, of(m, 1, 6).best(0), least[m - 2]);
        }
        PhraseTrees even = of(2, 1, 6);
        typeTimes(even, 80, 1);
        due("80 bits by 1, 2, 4 and 5", even.best(0), 1);
        says(22, "how many bits that are (1)");
        due("no text", new PhraseTrees().best(1), 0);
        due("one letter of two", x.best(1), 1);
        due("one letter of five", z.best(1), 3);
        due("one word of six bits", y.best(1), 6);
        due("eighty letters", even.best(1), 80);
        // 0 is so likely that by 3 bits seven are a phrase, by 4 eight are
        PhraseTrees w = made(EdgesOfTerms::eights);
        typeTimes(w, 7, 0);
        due("seven", 10 * w.best(0) + w.best(1), 33);
        w.type(0);
        due("eight", 10 * w.best(0) + w.best(1), 44);
        typeTimes(w, 72, 0);
        due("eighty, the last ones a beginning", 100 * w.best(0) + w.best(1), 336);
        // by 3 bits 11, and behind it 1111111; by one tree alone 4 bits would be shortest
        PhraseTrees states = made(EdgesOfText::twoTrees);
        typeTimes(states, 9, 1);
        due("by the trees of both states", 10 * states.best(0) + states.best(1), 36);
        says(22, "BAD");
        refusedOutside("what", 0, 1, (v, what) -> v.best(what), BAD);
        says(22, "(Nothing of it stays.)");
        unchanged("width", v -> {
            EdgesOfTerms.eights(v);
            typeTimes(v, 7, 0);
            putAll(v, 1, 2);
            v.rest(1);
        }, v -> v.best(0), 3);
        unchanged("bits, of an empty text", v -> putAll(v, 63), v -> v.best(1), 0);
    }

    private static void likely() {
        says(23, "LIKELY: above (what = 0), below (1)");
        unchanged("no text, above", v -> v.put(0, 1), v -> v.likely(0), 1);
        unchanged("no text, below", v -> v.put(0, 1), v -> v.likely(1), 1);
        PhraseTrees x = of(2, 1, 1);
        x.weight(0, 0, 15);
        typeTimes(x, 15, 0);
        due("15 to the 15", x.likely(0), 437893890380859375L);
        due("16 to the 15", x.likely(1), 1152921504606846976L);
        says(23, "BAD");
        refusedOutside("what", 0, 1, (v, what) -> v.likely(what), BAD_LONG);
        refused("ahead of OVER", EdgesOfText::fullText, v -> v.likely(2), BAD_LONG);
        refused("below, ahead of OVER", EdgesOfText::fullText, v -> v.likely(-1), BAD_LONG);
        says(23, "OVER");
        refused("above", EdgesOfText::fullText, v -> v.likely(0), OVER_LONG);
        refused("below", EdgesOfText::fullText, v -> v.likely(1), OVER_LONG);
        PhraseTrees y = of(2, 1, 1);
        typeTimes(y, 59, 1);
        due("59 halves", y.likely(1), 1L << 59);
        y.type(1);
        due("60 halves: 16 by 2 to the 59 is more than the greatest long", y.likely(1), OVER_LONG);
        y.wipe();
        due("no more when wiped", y.likely(1), 1);
    }

    private static void threeWords(PhraseTrees x) {
        rich(x);
        set(x, 3, 1, 3);
        typeAll(x, 2, 0, 1);
        putAll(x, 1, 2, 3);
    }

    /** Eighty words of one letter each. */
    private static void fullEven(PhraseTrees x) {
        putTimes(x, 80, 3);
    }
}
