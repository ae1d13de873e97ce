import java.lang.reflect.Array;
import java.lang.reflect.Constructor;
import java.lang.reflect.Field;
import java.lang.reflect.Method;
import java.lang.reflect.Modifier;
import java.nio.file.Files;
import java.nio.file.Path;
import java.util.Arrays;
import java.util.Collections;
import java.util.IdentityHashMap;
import java.util.Set;
import java.util.TreeSet;
import java.util.regex.Matcher;
import java.util.regex.Pattern;
import java.util.stream.Collectors;

/** The public face as the document tells it, what LANGUAGE.md rules out, and what an object takes of the room. */
public final class FaceTest {
    private static final Path SOURCE = Path.of("src/main/java/PhraseTrees.java");
    private static final Path DOC = Path.of("../shared/DOC.md");
    private static final int MOST_LINES = 60;
    private static final String FACE = """
        int bits(int,int)
        int best(int)
        int code(int)
        int count(int)
        int crate(int,int,int)
        int decode()
        int drop(int)
        int encode()
        int fault()
        int get(int,int)
        int harm(int,int)
        int held(int,int,int)
        int hold(int,int,int,int)
        int keep(int)
        int lay(int,int,int)
        int letter(int)
        int letters(int,int)
        int lose(int)
        int move(int,int,int,int,int)
        int node(int,int,int)
        int put(int,int)
        int read(int)
        int rest(int)
        int sheet(int,int)
        int take(int)
        int tree(int,int)
        int type(int)
        int weight(int,int,int)
        int width(int)
        int wipe()
        int write(int)
        long chance(int,int,int)
        long digest()
        long expected(int,int)
        long likely(int)
        long longRun()
        """;
    /** What the rules leave out, as words that the program's file may not hold. */
    private static final String[] RULED_OUT = {"import ", "throw", "catch", "finally", "synchronized", "assert", "->",
        "::", "Float.", "Double.", "System.nanoTime", "System.currentTimeMillis", "Exact(", "hashCode", "toString",
        "Random", "package ", "lambda", "record ", "static {"};
    private static int checks = 0, wrong = 0;

    private static void due(String what, Object got, Object want) {
        checks++;
        if (!want.equals(got)) {
            wrong++;
            System.out.println(what + ": " + got + ", due is " + want);
        }
    }

    private static void face() {
        Set<String> methods = new TreeSet<>();
        Set<String> names = new TreeSet<>();
        for (Method m : PhraseTrees.class.getDeclaredMethods()) {
            if (!Modifier.isPrivate(m.getModifiers())) {
                names.add(m.getName());
                methods.add(m.getReturnType() + " " + m.getName() + "("
                        + Arrays.stream(m.getParameterTypes()).map(Class::getName).collect(Collectors.joining(",")) + ")");
                due(m.getName() + " is public alone", Modifier.toString(m.getModifiers()), "public");
            }
        }
        due("methods", methods, new TreeSet<>(FACE.lines().toList()));
        Set<String> constants = new TreeSet<>();
        for (Field f : PhraseTrees.class.getDeclaredFields()) {
            if (!Modifier.isPrivate(f.getModifiers())) {
                constants.add(Modifier.toString(f.getModifiers()) + " " + f.getType() + " " + f.getName());
            }
        }
        due("constants", constants, Arrays.stream(new String[] {"NONE", "BAD", "NOT", "FULL", "OVER"})
                .map(n -> "public static final int " + n).collect(Collectors.toCollection(TreeSet::new)));
        Constructor<?>[] made = PhraseTrees.class.getDeclaredConstructors();
        due("constructors", made.length, 1);
        due("its parameters", made[0].getParameterCount(), 0);
        due("class", Modifier.toString(PhraseTrees.class.getModifiers()), "public final");
        within(names);
    }

    /** Static state would let one object's calls change another's answers. */
    private static void noStaticState(Class<?> c) {
        for (Field f : c.getDeclaredFields()) {
            if (Modifier.isStatic(f.getModifiers())) {
                due(f + " is a constant", Modifier.isFinal(f.getModifiers()) && f.getType().isPrimitive(), true);
            }
        }
    }

    private static void within(Set<String> names) {
        noStaticState(PhraseTrees.class);
        due("no more than twelve classes", PhraseTrees.class.getDeclaredClasses().length < 12, true);
        for (Class<?> c : PhraseTrees.class.getDeclaredClasses()) {
            noStaticState(c);
            due(c + " is static", Modifier.isStatic(c.getModifiers()), true);
            due(c + " is not public", (c.getModifiers() & (Modifier.PUBLIC | Modifier.PROTECTED)) == 0, true);
            due(c + " has some twenty fields", c.getDeclaredFields().length <= 22, true);
            for (Method m : c.getDeclaredMethods()) {
                due(m + " bears a name of its own", names.contains(m.getName()), false);
                due(m + " has at most seven parameters", m.getParameterCount() <= 7, true);
            }
        }
        for (Method m : PhraseTrees.class.getDeclaredMethods()) {
            due(m + " is no private one with a public one's name",
                    Modifier.isPrivate(m.getModifiers()) && names.contains(m.getName()), false);
        }
    }

    private static void source() throws java.io.IOException {
        String all = Files.readString(SOURCE);
        for (String word : RULED_OUT) {
            due("the program holds '" + word + "'", all.contains(word), false);
        }
        due("signs are 1 to 127", all.chars().allMatch(c -> c >= 1 && c <= 127), true);
        // all rows are made with the object, in fields and constructors, none by a call
        String calls = all.substring(all.indexOf("// ---- letters, states, trees"), all.indexOf("private static final class Setting"));
        due("a call makes an object", Pattern.compile("\\bnew \\w+[\\[(]").matcher(calls).find(), false);
    }

    /** The face as the document writes it, in its order, each call below the words that stand ahead of it. */
    private static void document() throws java.io.IOException {
        String all = Files.readString(SOURCE);
        String doc = Files.readString(DOC);
        String written = doc.substring(doc.indexOf("```java") + 7);
        int at = 0;
        int lines = 0;
        for (String line : written.substring(0, written.indexOf("```")).trim().lines().map(String::trim).toList()) {
            boolean isMember = line.endsWith(";") && !line.contains("=");
            int found = all.indexOf(isMember ? line.substring(0, line.length() - 1) + " {" : line, at);
            due("'" + line + "' stands there, behind the one ahead of it", found >= at, true);
            at = Math.max(at, found);
            lines++;
        }
        // beside its calls it has the class, the constants, the constructor and the end
        due("lines of the face", (long) lines, FACE.lines().count() + 4);
        sections(all, doc);
    }

    private static void sections(String all, String doc) {
        Matcher ahead = Pattern.compile("Ahead of the calls (.*) the interface says: (---- .*)\\.").matcher(doc);
        int sections = 0;
        while (ahead.find()) {
            int from = all.indexOf("// " + ahead.group(2));
            int to = all.indexOf("// ----", from + 1);
            for (String name : ahead.group(1).replaceAll("[`,]", "").split(" ")) {
                int call = Math.max(all.indexOf("public int " + name + "("), all.indexOf("public long " + name + "("));
                due(name + " stands below " + ahead.group(2), from >= 0 && call > from && call < to, true);
            }
            sections++;
        }
        due("sections of the face", sections, 4);
    }

    /** A method's head and its end stand at the same indent, which is 4, or 8 within a class inside. */
    private static void shortMethods() throws java.io.IOException {
        String all = Files.readString(SOURCE);
        Matcher head = Pattern.compile("(?m)^( {4}| {8})(?! )[^\\n;=]*\\) \\{$").matcher(all);
        int methods = 0;
        while (head.find()) {
            int end = all.indexOf("\n" + head.group(1) + "}", head.start());
            long lines = all.substring(head.start(), Math.max(end, head.start())).lines().count() + 1;
            due(head.group().trim() + " has at most " + MOST_LINES + " lines", end > 0 && lines <= MOST_LINES, true);
            methods++;
        }
        due("methods are found", methods > 36, true);
    }

    private static long things = 0, elements = 0;

    private static void walk(Object x, Set<Object> seen) throws IllegalAccessException {
        if (x == null || !seen.add(x)) {
            return;
        }
        things++;
        if (x.getClass().isArray()) {
            elements += Array.getLength(x);
            for (int k = 0; !x.getClass().getComponentType().isPrimitive() && k < Array.getLength(x); k++) {
                walk(Array.get(x, k), seen);
            }
            return;
        }
        for (Field f : x.getClass().getDeclaredFields()) {
            if (!Modifier.isStatic(f.getModifiers())) {
                elements++;
                f.setAccessible(true);
                if (!f.getType().isPrimitive()) {
                    walk(f.get(x), seen);
                }
            }
        }
    }

    private static void room() throws IllegalAccessException {
        walk(new PhraseTrees(), Collections.newSetFromMap(new IdentityHashMap<>()));
        System.out.println("an object is " + things + " objects and arrays with " + elements + " fields and elements");
        due("few things", things < 120, true);
        due("few elements", elements < 6000, true);
    }

    public static void main(String[] args) throws Exception {
        face();
        document();
        source();
        shortMethods();
        room();
        System.out.println(checks - wrong + " of " + checks + " checks hold");
        System.exit(wrong == 0 ? 0 : 1);
    }
}
