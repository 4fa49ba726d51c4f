import java.lang.reflect.Constructor;
import java.lang.reflect.Field;
import java.lang.reflect.Method;
import java.lang.reflect.Modifier;
import java.nio.file.Files;
import java.nio.file.Path;
import java.util.Arrays;
import java.util.List;
import java.util.Map;
import java.util.Set;
import java.util.TreeMap;
import java.util.TreeSet;
import java.util.regex.Matcher;
import java.util.regex.Pattern;

/** The public face of the document, and what of LANGUAGE.md can be seen by a machine. */
public final class FaceTest {
    private static final Due DUE = new Due("FaceTest");
    private static final Set<String> FACE = new TreeSet<>(List.of(
            "int width(int, int)", "int set(int, long)", "long register(int)", "int poke(int, long)",
            "long cell(int)", "int flag(int, boolean)", "int flags()", "int act(int, int, int, int, int)",
            "int clear(int)", "int look(int, int, int)", "int buses(int)", "int needs(int, int, int)",
            "int pack(int)", "int word(int, int)", "int why(int, int)", "int store()", "int place(int, int)",
            "int at(int, int)", "int group(int)", "int narrow(int)", "int run(int, boolean)", "int told(int)",
            "int beside(int)", "int code(int, int)", "int step(int)", "int count(int)", "int image()",
            "int restore()", "int lay(int, int)", "int tear()", "int row(int)", "int copy(int, int, int)",
            "int status(int)"));
    private static final Map<String, Integer> CONSTANTS = new TreeMap<>(Map.of("NONE", -1, "MISSING", -2,
            "BEYOND", -3, "BELOW", -4, "COPY", -5, "NO", -6, "FULL", -7));
    private static final String[] FORBIDDEN = {"throw", "try", "catch", "synchronized", "assert", "->", "::",
        "Exact", "double", "float", "Object", "equals", "hashCode", "System\\.(?!arraycopy)", "Arrays\\.(?!fill|copyOf)"};

    public static void main(String[] args) throws Exception {
        DUE.promise(1);
        methods();
        fields();
        constructors();
        nested();
        text(args.length > 0 ? args[0] : "src/main/java/StepStore.java");
        DUE.end();
    }

    private static void methods() {
        Set<String> found = new TreeSet<>();
        Set<String> names = new TreeSet<>();
        for (Method m : StepStore.class.getDeclaredMethods()) {
            if (!Modifier.isPrivate(m.getModifiers())) {
                DUE.holds(m + " is public, not static", m.getModifiers() == Modifier.PUBLIC);
                String types = Arrays.toString(m.getParameterTypes());
                found.add(m.getReturnType() + " " + m.getName() + "(" + types.substring(1, types.length() - 1) + ")");
                names.add(m.getName());
            }
        }
        DUE.holds("the methods are " + found, found.equals(FACE));
        for (Method m : StepStore.class.getDeclaredMethods()) {
            DUE.holds(m + " bears a public name", Modifier.isPublic(m.getModifiers()) || !names.contains(m.getName()));
        }
    }

    private static void fields() throws Exception {
        Map<String, Integer> found = new TreeMap<>();
        for (Field f : StepStore.class.getDeclaredFields()) {
            if (!Modifier.isPrivate(f.getModifiers())) {
                DUE.holds(f + " is a constant", Modifier.isStatic(f.getModifiers()) && Modifier.isFinal(f.getModifiers()));
                found.put(f.getName(), f.getInt(null));
            }
            DUE.holds(f + " is final, if static",
                    !Modifier.isStatic(f.getModifiers()) || Modifier.isFinal(f.getModifiers()));
        }
        DUE.holds("the constants are " + found, found.equals(CONSTANTS));
    }

    private static void constructors() {
        Constructor<?>[] all = StepStore.class.getDeclaredConstructors();
        DUE.is("constructors", all.length, 1);
        DUE.holds("it is public, without parameters",
                Modifier.isPublic(all[0].getModifiers()) && all[0].getParameterCount() == 0);
        DUE.holds("the class is final", Modifier.isFinal(StepStore.class.getModifiers()));
    }

    private static void nested() {
        Class<?>[] all = StepStore.class.getDeclaredClasses();
        DUE.holds("twelve classes at most", all.length < 12);
        for (Class<?> c : all) {
            DUE.holds(c + " is static", Modifier.isStatic(c.getModifiers()));
            DUE.holds(c + " is not public", !Modifier.isPublic(c.getModifiers()));
            for (Method m : c.getDeclaredMethods()) {
                DUE.holds(m + " has seven parameters at most", m.getParameterCount() <= 7);
                DUE.holds(m + " bears a public name",
                        Arrays.stream(StepStore.class.getMethods()).noneMatch(p -> p.getName().equals(m.getName())));
            }
        }
    }

    private static void text(String path) throws Exception {
        String text = Files.readString(Path.of(path)).replaceAll("(?s)/\\*.*?\\*/", "").replaceAll("//[^\n]*", "");
        for (String word : FORBIDDEN) {
            Matcher m = Pattern.compile(word.matches("\\w+") ? "\\b\\w*" + word + "\\w*\\b" : word).matcher(text);
            while (m.find()) {
                // A longer name may hold a forbidden word's letters; "Exact" is forbidden inside names too.
                boolean isName = word.matches("\\w+") && !word.equals("Exact") && !m.group().equals(word);
                DUE.holds("the text has " + m.group(), isName);
            }
        }
        Matcher imports = Pattern.compile("import ([\\w.]+);").matcher(text);
        while (imports.find()) {
            DUE.holds("import " + imports.group(1), imports.group(1).equals("java.util.Arrays"));
        }
        // Rows are made where the object is made, so that calls make none.
        Matcher made = Pattern.compile("(?m)^.*\\bnew\\b.*$").matcher(text);
        while (made.find()) {
            String line = made.group().trim();
            DUE.holds("made outside a field or a constructor: " + line,
                    line.matches("(private )?final .* = new .*") || line.equals("this.search = new Search(rows);"));
        }
    }
}
