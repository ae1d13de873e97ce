import java.io.IOException;
import java.io.UncheckedIOException;
import java.util.ArrayList;
import java.util.List;

/**
 * What the tests of boundary cases share. Each test first says which promise (0: Terms) and which
 * words of the document it holds; these words must stand there.
 */
abstract class Edges {
    static final int LEAST = Integer.MIN_VALUE, MOST = Integer.MAX_VALUE;
    static final int NONE = -1, BAD = -2, NOT = -3, FULL = -4;
    static final int NULL = -11, INDEX = -12, STORE = -13, SIZE = -14;
    static final long BAD_LONG = Long.MIN_VALUE + 2, OVER_LONG = Long.MIN_VALUE + 5;
    static final int TERMS = DocText.TERMS;

    /** What a test does to a new object ahead of the call that it looks at. */
    interface Setup {
        void on(PhraseTrees x);
    }

    interface Act {
        long on(PhraseTrees x);
    }

    /** A call with one number left open. */
    interface OpenAct {
        long on(PhraseTrees x, int v);
    }

    private static final DocText DOC = document();
    private static String sentence = "";
    private static int checks = 0, wrong = 0, checksOfSentence = 1;

    private static DocText document() {
        try {
            return new DocText();
        } catch (IOException e) {
            throw new UncheckedIOException(e);
        }
    }

    static void says(int promise, String words) {
        failIfUntested();
        sentence = (promise == TERMS ? "Terms" : "promise " + promise) + ", '" + words + "'";
        checksOfSentence = 0;
        if (!DOC.names(promise, words)) {
            fail(sentence + " does not stand there just once");
        }
    }

    private static void failIfUntested() {
        if (checksOfSentence == 0) {
            fail(sentence + " was not tested");
        }
    }

    private static void fail(String why) {
        wrong++;
        System.out.println(why);
    }

    static void due(String which, long got, long want) {
        checks++;
        checksOfSentence++;
        if (got != want) {
            fail(sentence + ": " + which + " answered " + got + ", due is " + want);
        }
    }

    static void due(String which, boolean holds) {
        due(which, holds ? 1 : 0, 1);
    }

    static void due(String which, String got, String want) {
        due(which + ", '" + got + "'", got.equals(want));
    }

    /** All of a row, each with its place. */
    static void due(String which, int[] got, int... want) {
        due(which + ", how many", got.length, want.length);
        for (int k = 0; k < Math.min(got.length, want.length); k++) {
            due(which + " [" + k + "]", got[k], want[k]);
        }
    }

    static PhraseTrees made(Setup setup) {
        PhraseTrees x = new PhraseTrees();
        setup.on(x);
        return x;
    }

    static PhraseTrees of(int m, int q, int width) {
        return made(x -> set(x, m, q, width));
    }

    static void set(PhraseTrees x, int m, int q, int width) {
        x.width(6);
        x.letters(m, q);
        x.width(width);
    }

    /** Has something of everything: two slots kept, three crates and a sheet not lost. */
    static void rich(PhraseTrees x) {
        x.letters(3, 2);
        x.weight(0, 0, 9);
        x.keep(0);
        x.weight(1, 1, 3);
        x.weight(0, 1, 4);
        x.keep(2);
        typeAll(x, 0, 1, 2, 2, 0, 1, 0, 2, 1, 1, 0);
        x.encode();
        x.wipe();
        typeAll(x, 2, 0, 1);
        for (int form = 0; form <= 2; form++) {
            x.crate(form, form, 4 - form);
        }
        x.hold(0, 0, 1, 9);
        x.hold(0, 2, 0, 1);
        x.hold(1, 1, 0, 9);
        x.hold(2, 0, 0, 0);
        x.sheet(0, 5);
        layAll(x, 0, 1, 2, 0, -7, 3);
    }

    /** All that calls tell of an object but count() 8. It is worn out then. */
    private static List<Long> all(PhraseTrees x) {
        List<Long> all = new ArrayList<>();
        for (int what = 0; what <= 7; what++) {
            all.add((long) x.count(what));
        }
        all.add(x.digest());
        for (int s = 0; s < 2; s++) {
            for (int i = 0; i <= 80; i++) {
                all.add((long) x.get(s, i));
            }
        }
        int leaf = x.tree(0, 1) - 1;
        for (int c = 0; c < 4; c++) {
            all.add((long) x.hold(c, 0, 0, leaf));
            all.add((long) x.hold(c, 0, 0, 0));
            all.add((long) x.lose(c));
        }
        for (int s = 0; s < 4; s++) {
            all.add((long) x.take(s));
            all.add(x.digest());
        }
        return all;
    }

    /** The latest finding, on both, is one that the call can't answer. */
    private static PhraseTrees madeWithFinding(Setup setup, int other) {
        PhraseTrees x = made(setup);
        if (other == SIZE) {
            x.sheet(0, -1);
        } else {
            x.keep(3);
            x.drop(3);
            x.drop(3);
        }
        return x;
    }

    /** A call that changes nothing at all. */
    static void unchanged(String which, Setup setup, Act act, long want) {
        PhraseTrees x = madeWithFinding(setup, SIZE);
        due(which, act.on(x), want);
        due(which + ": count() 8 stays", x.count(8), 4);
        due(which + ": nothing changes", all(x).equals(all(madeWithFinding(setup, SIZE))));
    }

    /** A refusal that is no FINDING. */
    static void refused(String which, Setup setup, Act act, long want) {
        unchanged(which, setup, act, want);
    }

    static void refused(String which, Act act, long want) {
        refused(which, Edges::rich, act, want);
    }

    private static int[] outside(int least, int most) {
        return new int[] {least - 1, most + 1, LEAST, MOST, least - 256, most + 256, least - 65536, most + 65536};
    }

    /** Numbers next to and far from least to most are refused. */
    static void refusedOutside(String which, Setup setup, int least, int most, OpenAct act, long want) {
        for (int v : outside(least, most)) {
            refused(which + " " + v, setup, x -> act.on(x, v), want);
        }
    }

    static void refusedOutside(String which, int least, int most, OpenAct act, long want) {
        refusedOutside(which, Edges::rich, least, most, act, want);
    }

    /** A call that answers a FINDING, and changes nothing but count() 8. */
    static void finds(String which, Setup setup, Act act, int want) {
        findsAs(which, setup, act, want, want);
    }

    static void finds(String which, Act act, int want) {
        finds(which, Edges::rich, act, want);
    }

    /** Places next to and far from those of a row of n are not there. */
    static void findsNoPlace(String which, int n, OpenAct act, int want) {
        for (int v : outside(0, n - 1)) {
            findsAs(which + " " + v, Edges::rich, x -> act.on(x, v), INDEX, want);
        }
    }

    /** The same, where the answer does not tell the FINDING itself. */
    static void findsAs(String which, Setup setup, Act act, int finding, int want) {
        int other = finding == SIZE ? NULL : SIZE;
        PhraseTrees x = madeWithFinding(setup, other);
        due(which, act.on(x), want);
        due(which + ": count() 8", x.count(8), -10 - finding);
        due(which + ": nothing else changes", all(x).equals(all(madeWithFinding(setup, other))));
    }

    static void typeAll(PhraseTrees x, int... text) {
        for (int l : text) {
            x.type(l);
        }
    }

    static void typeTimes(PhraseTrees x, int times, int l) {
        for (int k = 0; k < times; k++) {
            x.type(l);
        }
    }

    static void putAll(PhraseTrees x, int... words) {
        for (int v : words) {
            x.put(x.count(4), v);
        }
    }

    static void putTimes(PhraseTrees x, int times, int v) {
        int from = x.count(4);
        for (int k = 0; k < times; k++) {
            x.put(from + k, v);
        }
    }

    static void layAll(PhraseTrees x, int s, int... bytes) {
        for (int i = 0; i < bytes.length; i++) {
            x.lay(s, i, bytes[i]);
        }
    }

    static int[] text(PhraseTrees x) {
        int[] all = new int[x.count(3)];
        for (int k = 0; k < all.length; k++) {
            all[k] = x.letter(k);
        }
        return all;
    }

    static int[] code(PhraseTrees x) {
        int[] all = new int[x.count(4)];
        for (int k = 0; k < all.length; k++) {
            all[k] = x.code(k);
        }
        return all;
    }

    static int[] counts(PhraseTrees x, int... whats) {
        int[] all = new int[whats.length];
        for (int k = 0; k < whats.length; k++) {
            all[k] = x.count(whats[k]);
        }
        return all;
    }

    static int[] weights(PhraseTrees x, int q) {
        int[] all = new int[5];
        for (int l = 0; l < 5; l++) {
            all[l] = x.tree(q, 3 + l);
        }
        return all;
    }

    /** Letters of a node as a text. */
    static String letters(PhraseTrees x, int q, int i) {
        StringBuilder all = new StringBuilder();
        for (int what = 2; what <= 9 && x.node(q, i, what) != NONE; what++) {
            all.append(x.node(q, i, what));
        }
        return all.toString();
    }

    static int[] held(PhraseTrees x, int c, int i) {
        return new int[] {x.held(c, i, 0), x.held(c, i, 1), x.held(c, i, 2)};
    }

    /** How many letters the nodes at the places of a crate have; NULL for NOTHING. */
    static int[] sizes(PhraseTrees x, int c, int n) {
        int[] all = new int[n];
        for (int i = 0; i < n; i++) {
            all[i] = x.held(c, i, 0);
        }
        return all;
    }

    static void end() {
        failIfUntested();
        for (String clause : DOC.unnamed()) {
            fail("no test names a word of " + clause);
        }
        System.out.println(checks + " answers of boundary cases, " + wrong + " things not as due");
        System.exit(wrong == 0 ? 0 : 1);
    }
}
