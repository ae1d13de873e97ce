import java.io.IOException;
import java.lang.reflect.Field;
import java.lang.reflect.Method;
import java.lang.reflect.Modifier;
import java.nio.file.Files;
import java.nio.file.Path;
import java.util.Arrays;
import java.util.List;
import java.util.regex.Matcher;
import java.util.regex.Pattern;

/**
 * README.md says how to use the class: every call and constant must be told there, and every example
 * must answer what stands behind it.
 */
public final class ReadmeTest {
    private static final Path README = Path.of("README.md");
    private static final String MADE = "PhraseTrees x = new PhraseTrees();";
    /** A call, perhaps told as a float or a double, and its answer; words behind a colon are free. */
    private static final Pattern EXAMPLE = Pattern.compile(
            "(?:(Float|Double)\\.\\w+\\((?:\\(int\\) )?)?x\\.(\\w+)\\(([-\\d, ]*)\\)\\)?; +// ([-.\\d]+)(?:: .*)?");
    private static int checks = 0, wrong = 0;

    private static void due(String what, Object got, Object want) {
        checks++;
        if (!want.equals(got)) {
            wrong++;
            System.out.println("README.md, " + what + ": " + got + ", due is " + want);
        }
    }

    private static List<Method> face() {
        return Arrays.stream(PhraseTrees.class.getDeclaredMethods())
                .filter(m -> Modifier.isPublic(m.getModifiers())).toList();
    }

    private static Method named(String name) {
        return face().stream().filter(m -> m.getName().equals(name)).findFirst().orElse(null);
    }

    private static String answer(PhraseTrees x, Matcher example) throws ReflectiveOperationException {
        Method m = named(example.group(2));
        if (m == null) {
            return "no such call";
        }
        String args = example.group(3).trim();
        Object[] all = args.isEmpty() ? new Object[0]
                : Arrays.stream(args.split(", ")).map(Integer::valueOf).toArray();
        if (all.length != m.getParameterCount()) {
            return "not so many arguments";
        }
        long got = ((Number) m.invoke(x, all)).longValue();
        if ("Float".equals(example.group(1))) {
            return Float.toString(Float.intBitsToFloat((int) got));
        }
        return example.group(1) == null ? Long.toString(got) : Double.toString(Double.longBitsToDouble(got));
    }

    private static void examples(List<String> lines) throws ReflectiveOperationException {
        boolean inExample = false;
        int examples = 0;
        PhraseTrees x = null;
        for (String line : lines) {
            if (line.startsWith("```")) {
                inExample = line.equals("```java");
                x = null;
            } else if (inExample && line.equals(MADE)) {
                x = new PhraseTrees();
                examples++;
            } else if (inExample) {
                Matcher example = EXAMPLE.matcher(line);
                boolean is = x != null && example.matches();
                due(line + " is a call with its answer", is, true);
                if (is) {
                    due(line, answer(x, example), example.group(4));
                }
            }
        }
        due("some examples are there", examples >= 5, true);
    }

    /** A call stands in the table with as many arguments as it takes. */
    private static void calls(List<String> lines) {
        for (Method m : face()) {
            Pattern row = Pattern.compile("\\| `" + m.getName() + "\\((.*)\\)` \\| .+ \\|");
            List<String> told = lines.stream().map(row::matcher).filter(Matcher::matches).map(r -> r.group(1)).toList();
            due("rows of " + m.getName(), told.size(), 1);
            String args = told.isEmpty() ? "" : told.get(0);
            due("arguments of " + m.getName(), args.isEmpty() ? 0 : args.split(", ").length, m.getParameterCount());
        }
    }

    private static void constants(String all) throws IllegalAccessException {
        for (Field f : PhraseTrees.class.getDeclaredFields()) {
            if (Modifier.isPublic(f.getModifiers())) {
                due(f.getName(), all.contains("`" + f.getName() + "` " + f.getInt(null)), true);
            }
        }
    }

    private static void tests(String all) throws IOException {
        due("how tests are run", all.contains("    .ci/run\n"), true);
        try (var files = Files.list(Path.of("src/test/java"))) {
            for (Path file : files.filter(f -> f.toString().endsWith("Test.java")).toList()) {
                due(file + " is told", all.contains("`src/test/java/" + file.getFileName() + "`"), true);
            }
        }
    }

    public static void main(String[] args) throws Exception {
        String all = Files.readString(README);
        examples(all.lines().toList());
        calls(all.lines().toList());
        constants(all);
        tests(all);
        System.out.println(checks - wrong + " of " + checks + " things in README.md hold");
        System.exit(wrong == 0 ? 0 : 1);
    }
}
