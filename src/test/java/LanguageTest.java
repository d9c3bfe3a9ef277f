import java.lang.reflect.Constructor;
import java.lang.reflect.Executable;
import java.lang.reflect.Field;
import java.lang.reflect.Method;
import java.lang.reflect.Modifier;
import java.nio.charset.StandardCharsets;
import java.nio.file.Files;
import java.nio.file.Path;
import java.util.ArrayList;
import java.util.List;
import java.util.Set;
import java.util.TreeSet;
import java.util.regex.Matcher;
import java.util.regex.Pattern;

/** The face of the document, and those rules of LANGUAGE.md that can be seen from the source or the class files. */
public final class LanguageTest {
    private static final String[] FACE = {
        "int set(int,int)", "int member(int,int)", "int bought(int,int)", "int becomes(int,int)", "int wish(int,int,int)",
        "int doubted(int,int,int)", "int sure(int,int)", "int about(int,int)", "int fault(int)", "int tree(int)",
        "int of(int,int)", "int beat(int,int)", "int stands(int,int)", "int run(int)", "int ask(int,int,int)",
        "int wonBy(int,int)", "int why(int,int,int)", "int ifAll(int,int)", "int parts(int)", "int order(int,boolean)",
        "int reach(boolean)", "int first(int,boolean)", "int best()", "int top(int)", "int killers(int)",
        "int shields(int,int)", "int tell(int,int)", "int falseVote(int,int)", "long chance(int,int)",
        "int boughtOff(int,int)", "int bestLie(int,int,int)", "int surely(int,int,int)", "int ring(int)", "int usual(int)",
        "int breach(int,int,int,boolean)", "int finds(int,int)", "int image()", "int restore()", "int count(int)",
        "int keep(int,int,int)", "int row(int,int,int)", "int put(int,int,int)", "long element(int,int)",
        "int copy(int,int,int,int,int)", "int heft(int)", "int toss(int)",
    };
    private static String source;
    private static String code;

    public static void main(String[] args) throws Exception {
        Path file = Path.of(System.getProperty("main.source", "src/main/java/QuestionDesk.java"));
        source = Files.readString(file, StandardCharsets.ISO_8859_1);
        code = withoutTexts(source);
        Checks.test("rule 1: the face", LanguageTest::face);
        Checks.test("rule 1: names", LanguageTest::names);
        Checks.test("rule 2: classes inside", LanguageTest::classes);
        Checks.test("rule 4: the library", LanguageTest::library);
        Checks.test("rule 5: static fields", LanguageTest::statics);
        Checks.test("rule 6: exceptions", LanguageTest::exceptions);
        Checks.test("rules 2, 6, 10: words that are left out", LanguageTest::words);
        Checks.test("rule 11: sizes", LanguageTest::sizes);
        Checks.end();
    }

    private static String withoutTexts(String s) {
        return s.replaceAll("(?s)/\\*.*?\\*/", "").replaceAll("//[^\n]*", "")
                .replaceAll("\"(\\\\.|[^\"\\\\])*\"", "\"\"").replaceAll("'(\\\\.|[^'\\\\])'", "' '");
    }

    private static List<Class<?>> all() {
        List<Class<?>> list = new ArrayList<>();
        list.add(QuestionDesk.class);
        list.addAll(List.of(QuestionDesk.class.getDeclaredClasses()));
        return list;
    }

    private static String shape(Method m) {
        StringBuilder s = new StringBuilder(m.getReturnType().getSimpleName() + " " + m.getName() + "(");
        for (int i = 0; i < m.getParameterCount(); i++) {
            s.append(i == 0 ? "" : ",").append(m.getParameterTypes()[i].getSimpleName());
        }
        return s.append(")").toString();
    }

    private static void face() {
        Class<?> desk = QuestionDesk.class;
        Checks.holds("public and final", Modifier.isPublic(desk.getModifiers()) && Modifier.isFinal(desk.getModifiers()));
        Set<String> open = new TreeSet<>();
        for (Method m : desk.getDeclaredMethods()) {
            if (!Modifier.isPrivate(m.getModifiers()) && !m.isSynthetic()) {
                Checks.holds(m + " is public, not static", Modifier.isPublic(m.getModifiers()) && !Modifier.isStatic(m.getModifiers()));
                open.add(shape(m));
            }
        }
        Checks.holds("methods: " + open, open.equals(new TreeSet<>(List.of(FACE))));
        for (Field f : desk.getDeclaredFields()) {
            Checks.holds(f + " is private", Modifier.isPrivate(f.getModifiers()));
        }
        Constructor<?>[] made = desk.getDeclaredConstructors();
        Checks.holds("one constructor", made.length == 1 && Modifier.isPublic(made[0].getModifiers()) && made[0].getParameterCount() == 0);
        try {
            Class<?>[] thrown = desk.getMethod("element", int.class, int.class).getExceptionTypes();
            Checks.holds("what element throws", List.of(thrown).equals(List.of(IllegalArgumentException.class, IllegalStateException.class)));
        } catch (NoSuchMethodException e) {
            Checks.fail("no element");
        }
    }

    private static void names() {
        Set<String> open = new TreeSet<>();
        for (String f : FACE) {
            open.add(f.substring(f.indexOf(' ') + 1, f.indexOf('(')));
        }
        for (Class<?> c : all()) {
            for (Method m : c.getDeclaredMethods()) {
                boolean own = c == QuestionDesk.class && Modifier.isPublic(m.getModifiers());
                Checks.holds(m + " bears a public name", own || !open.contains(m.getName()));
            }
        }
    }

    private static void classes() {
        for (Class<?> c : QuestionDesk.class.getDeclaredClasses()) {
            int how = c.getModifiers();
            Checks.holds(c + " is static, not public", Modifier.isStatic(how) && !Modifier.isPublic(how) && !Modifier.isProtected(how));
            Checks.holds(c + " is not an exception", !Throwable.class.isAssignableFrom(c));
        }
        Checks.holds("twelve classes", all().size() <= 12);
        Checks.holds("no package", QuestionDesk.class.getPackageName().isEmpty());
    }

    private static void library() {
        Matcher imports = Pattern.compile("import ([^;]*);").matcher(code);
        while (imports.find()) {
            Checks.holds(imports.group(), Set.of("java.util.Arrays", "java.util.ArrayList", "java.util.List").contains(imports.group(1)));
        }
        Set<String> own = new TreeSet<>();
        for (Class<?> c : all()) {
            own.add(c.getSimpleName());
        }
        Set<String> allowed = Set.of("System.arraycopy", "Arrays.copyOf", "Arrays.copyOfRange", "Arrays.fill", "List.of");
        Matcher calls = Pattern.compile("\\b([A-Z][A-Za-z]*)\\.([a-zA-Z]+)\\(").matcher(code);
        while (calls.find()) {
            boolean number = calls.group(1).matches("Integer|Long|Math") && !calls.group(2).endsWith("Exact");
            Checks.holds(calls.group(), number || own.contains(calls.group(1)) || allowed.contains(calls.group(1) + "." + calls.group(2)));
        }
        for (int i = 0; i < source.length(); i++) {
            Checks.holds("a sign of more than 7 bits at " + i, source.charAt(i) < 128);
        }
    }

    private static void statics() {
        for (Class<?> c : all()) {
            for (Field f : c.getDeclaredFields()) {
                if (Modifier.isStatic(f.getModifiers()) && !f.isSynthetic()) {
                    Checks.holds(f + " is final", Modifier.isFinal(f.getModifiers()));
                    Checks.holds(f + " is a constant", mayBeStatic(f.getType()));
                }
            }
        }
        Checks.holds("no static block", !Pattern.compile("static\\s*\\{").matcher(code).find());
    }

    private static boolean mayBeStatic(Class<?> type) {
        boolean row = Set.of(int[].class, long[].class, char[].class, byte[].class).contains(type);
        boolean ofEnum = type.isEnum() || type.isArray() && type.getComponentType().isEnum();
        return row || ofEnum || Set.of(int.class, long.class, boolean.class, char.class, String.class).contains(type);
    }

    private static void exceptions() {
        String allowed = "IllegalStateException|IllegalArgumentException|IndexOutOfBoundsException|ArithmeticException"
                + "|UnsupportedOperationException|NoSuchElementException|RuntimeException";
        Matcher thrown = Pattern.compile("\\bthrow\\b[^;]*;").matcher(code);
        while (thrown.find()) {
            Checks.holds(thrown.group(), thrown.group().matches("throw new (" + allowed + ")\\((\"\")?\\);"));
        }
        Matcher caught = Pattern.compile("catch \\(([\\w |]+) (\\w+)\\) \\{([^}]*)\\}").matcher(code);
        int many = 0;
        while (caught.find()) {
            many++;
            // None of those that the machine throws, nor one above these.
            for (String name : caught.group(1).split(" \\| ")) {
                Checks.holds(caught.group(), Set.of("IllegalStateException", "IllegalArgumentException", "UnsupportedOperationException", "NoSuchElementException").contains(name));
            }
            Checks.holds("it is left alone", !caught.group(3).matches("(?s).*\\b" + caught.group(2) + "\\b.*"));
        }
        Checks.due("all catches were seen", many, code.split("\\bcatch\\b", -1).length - 1);
    }

    private static void words() {
        String[] none = {"->", "::", "\\bfinally\\b", "\\bsynchronized\\b", "\\bassert\\b", "\\bvolatile\\b", "\\btransient\\b",
            "Exact\\b", "\\bhashCode\\b", "String toString\\(", "\\bgetMessage\\b", "boolean equals\\(", "\\bThread\\b", "\\bnative\\b"};
        for (String word : none) {
            Checks.holds(word, !Pattern.compile(word).matcher(code).find());
        }
    }

    private static void sizes() {
        for (Class<?> c : all()) {
            int fields = 0;
            for (Field f : c.getDeclaredFields()) {
                fields += Modifier.isStatic(f.getModifiers()) ? 0 : 1;
            }
            Checks.holds(c + " has " + fields + " fields", fields <= 20);
            List<Executable> calls = new ArrayList<>(List.of(c.getDeclaredMethods()));
            calls.addAll(List.of(c.getDeclaredConstructors()));
            for (Executable e : calls) {
                Checks.holds(e + " takes more than seven", e.isSynthetic() || e.getParameterCount() <= 7);
            }
        }
        Matcher methods = Pattern.compile("(?m)^( +)[\\w\\[\\] ]+\\([^;=]*\\)[\\w, ]* \\{$").matcher(source);
        int at = 0;
        while (methods.find(at)) {
            int end = source.indexOf("\n" + methods.group(1) + "}", methods.end());
            int lines = source.substring(methods.start(), end).split("\n", -1).length;
            Checks.holds(methods.group().trim() + " has " + lines + " lines", lines <= 60);
            at = methods.end();
        }
    }
}
