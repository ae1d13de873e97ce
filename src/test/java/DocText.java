import java.io.IOException;
import java.nio.file.Files;
import java.nio.file.Path;
import java.util.ArrayList;
import java.util.Arrays;
import java.util.List;
import java.util.regex.Matcher;
import java.util.regex.Pattern;

/**
 * The document's sentences by promise, and which of them tests have named. Section 0 is what stands
 * ahead of promise 1: "What it is" from its last sentence on, and "Terms".
 */
final class DocText {
    static final int TERMS = 0, PROMISES = 37;
    private static final Path DOC = Path.of("../shared/DOC.md");
    /** A clause ends with ; or . but not within 1.0 or 0 .. 3. */
    private static final Pattern CLAUSE_END = Pattern.compile(";|(?<!\\.)\\.(?= |$)");

    private final String[] sections = new String[PROMISES + 1];
    private final boolean[][] named = new boolean[PROMISES + 1][];

    DocText() throws IOException {
        String doc = Files.readString(DOC);
        sections[TERMS] = plain(between(doc, "======== 1 ", "## The public face")
                + between(doc, "## Terms", "Ahead of the calls `letters`"));
        for (int p = 1; p <= PROMISES; p++) {
            String next = p < PROMISES ? "## Promise " + (p + 1) + ":" : "## Not promised";
            String section = between(doc, "## Promise " + p + ":", next);
            sections[p] = plain(section.substring(section.indexOf("`: ") + 3));
        }
        for (int p = 0; p <= PROMISES; p++) {
            named[p] = new boolean[sections[p].length()];
        }
    }

    private static String between(String all, String from, String to) {
        int begin = all.indexOf(from) + from.length();
        return all.substring(begin, all.indexOf(to, begin));
    }

    private static String plain(String text) {
        return text.replace("```text", "").replace("```", "").replaceAll("\\s+", " ").trim();
    }

    /** A test is about to hold these words of a section; tells whether they stand there just once. */
    boolean names(int section, String words) {
        int at = sections[section].indexOf(words);
        if (at < 0 || sections[section].indexOf(words, at + 1) >= 0) {
            return false;
        }
        Arrays.fill(named[section], at, at + words.length(), true);
        return true;
    }

    /** The clauses of which no test has named a word. */
    List<String> unnamed() {
        List<String> all = new ArrayList<>();
        for (int p = 0; p <= PROMISES; p++) {
            Matcher ends = CLAUSE_END.matcher(sections[p]);
            int from = 0;
            while (ends.find()) {
                addIfUnnamed(all, p, from, ends.start());
                from = ends.end();
            }
            addIfUnnamed(all, p, from, sections[p].length());
        }
        return all;
    }

    private void addIfUnnamed(List<String> all, int section, int from, int to) {
        String clause = sections[section].substring(from, to);
        boolean is = clause.chars().noneMatch(Character::isLetter);
        for (int k = from; k < to; k++) {
            is |= named[section][k];
        }
        if (!is) {
            all.add(section + ":" + clause);
        }
    }
}
