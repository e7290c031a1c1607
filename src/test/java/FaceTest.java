import java.lang.reflect.Constructor;
import java.lang.reflect.Field;
import java.lang.reflect.Method;
import java.lang.reflect.Modifier;
import java.nio.file.Files;
import java.nio.file.Path;
import java.util.ArrayList;
import java.util.HashSet;
import java.util.List;
import java.util.Set;
import java.util.TreeSet;
import java.util.regex.Matcher;
import java.util.regex.Pattern;

/** The public face, and those rules of LANGUAGE.md that can be looked for in the file. */
public final class FaceTest {
    private static final String[] FACE = {
        "int fort(int,int)", "int of(int,int)", "int sign(int,int,int)", "int road(int,int,int)",
        "int fame(int,int)", "int asks(int,int,int)", "int terms(int,int)", "int feed(int,int,int,int,int)",
        "int end(int)", "int row()", "int brooms()", "int law()", "int orders()", "int fault()", "int stopped()",
        "int force(int)", "int show(int,int)", "int hide(int,int)", "int man(int,int)", "int march(int,int)",
        "int undo()", "int bluff(int,int,int)", "int scout(int,int)", "long holds(int,int)",
        "int retreat(int,int,int)", "int game(int,int,int,int,int)", "int siege(int,int,int)", "int career(int,int)",
        "int fire(int)", "int needs(int,int)", "int enough(int)", "int counted(int,int)", "int forget()",
        "int fits(int)", "int next(int)", "int sieges(int,int)", "int drawn(int,int)", "int image(int)",
        "int back(int)", "int count(int)", "int status()"};

    private static final String[] NOT_THERE = {"throw", "throws", "try", "catch", "synchronized", "assert", "var",
        "Object", "System.out", "Math.random", "hashCode", "toString", "native", "volatile", "Thread"};

    // What of rule 4 the class uses.
    private static final Set<String> LIBRARY = Set.of("Integer.bitCount", "Math.abs", "Math.max", "Math.min",
        "System.arraycopy", "Arrays.copyOf", "Arrays.fill");

    public static void main(String[] args) throws Exception {
        face();
        nested();
        source(Files.readString(Path.of("src/main/java/OpenGates.java")));
        Check.finish();
    }

    private static void face() {
        Check.about("the face");
        Check.isTrue("public and final", OpenGates.class.getModifiers() == (Modifier.PUBLIC | Modifier.FINAL));
        Set<String> names = new TreeSet<>();
        for (Method m : OpenGates.class.getDeclaredMethods()) {
            if (m.isSynthetic()) {
                continue;
            }
            if (Modifier.isPrivate(m.getModifiers())) {
                for (String due : FACE) {
                    Check.isTrue("private " + m.getName(), !due.contains(" " + m.getName() + "("));
                }
            } else {
                Check.isTrue("public " + m, m.getModifiers() == Modifier.PUBLIC);
                names.add(nameOf(m));
            }
        }
        Check.isTrue("methods " + names, names.equals(new TreeSet<>(List.of(FACE))));
        for (Field f : OpenGates.class.getDeclaredFields()) {
            boolean constant = f.getName().equals("NONE") || f.getName().equals("NOTHING");
            Check.isTrue("field " + f, constant == Modifier.isPublic(f.getModifiers()));
            Check.isTrue("field " + f, constant || Modifier.isPrivate(f.getModifiers()));
        }
        Constructor<?>[] made = OpenGates.class.getDeclaredConstructors();
        Check.same("constructors", made.length, 1);
        Check.isTrue("constructor", made[0].getModifiers() == Modifier.PUBLIC && made[0].getParameterCount() == 0);
    }

    private static String nameOf(Method m) {
        List<String> types = new ArrayList<>();
        for (Class<?> type : m.getParameterTypes()) {
            types.add(type.getName());
        }
        return m.getReturnType().getName() + " " + m.getName() + "(" + String.join(",", types) + ")";
    }

    private static void nested() {
        Check.about("classes inside");
        Set<String> publicNames = new HashSet<>();
        for (String due : FACE) {
            publicNames.add(due.substring(due.indexOf(' ') + 1, due.indexOf('(')));
        }
        Class<?>[] inside = OpenGates.class.getDeclaredClasses();
        Check.isTrue("some twelve", inside.length <= 12);
        for (Class<?> c : inside) {
            Check.isTrue(c + " is static", Modifier.isStatic(c.getModifiers()));
            Check.isTrue(c + " is not public", !Modifier.isPublic(c.getModifiers()));
            int fields = 0;
            for (Field f : c.getDeclaredFields()) {
                boolean fixed = Modifier.isStatic(f.getModifiers());
                fields += fixed ? 0 : 1;
                Check.isTrue(f + " is final", !fixed || Modifier.isFinal(f.getModifiers()));
            }
            Check.isTrue(c + " has few fields", fields <= 20);
            for (Method m : c.getDeclaredMethods()) {
                Check.isTrue(m + " has few parameters", m.getParameterCount() <= 7);
                Check.isTrue(m + " has a name of its own", !publicNames.contains(m.getName()));
            }
        }
    }

    private static void source(String text) {
        Check.about("the file");
        String code = text.replaceAll("(?s)/\\*.*?\\*/", "").replaceAll("//[^\n]*", "");
        for (String word : NOT_THERE) {
            Check.isTrue("no " + word, !Pattern.compile("\\b" + Pattern.quote(word) + "\\b").matcher(code).find());
        }
        Check.isTrue("no lambda", !code.contains("->"));
        Check.isTrue("no method reference", !code.contains("::"));
        Check.isTrue("no double", !Pattern.compile("\\b(double|float)\\b").matcher(code).find());
        Matcher imports = Pattern.compile("import ([^;]*);").matcher(code);
        while (imports.find()) {
            Check.isTrue("import " + imports.group(1), imports.group(1).equals("java.util.Arrays"));
        }
        Matcher calls = Pattern.compile("\\b(Integer|Long|Math|System|Arrays|String|StringBuilder)\\.(\\w+)").matcher(code);
        while (calls.find()) {
            Check.isTrue("library: " + calls.group(), LIBRARY.contains(calls.group()));
        }
        Check.isTrue("no sign beyond 127", text.chars().allMatch(c -> c < 128));
        shortMethods(text.split("\n"));
    }

    /** A method begins with its brace behind brackets, no deeper than two levels, and ends as deep as it began. */
    private static void shortMethods(String[] lines) {
        for (int from = 0; from < lines.length; from++) {
            String line = lines[from];
            String indent = line.substring(0, line.length() - line.stripLeading().length());
            if (!line.endsWith(") {") || indent.length() > 8 || line.strip().matches("(if|for|while|switch|}).*")) {
                continue;
            }
            int to = from;
            while (to < lines.length && !lines[to].equals(indent + "}")) {
                to++;
            }
            Check.isTrue(line.strip() + " is short: " + (to - from), to - from <= 60);
        }
    }
}
