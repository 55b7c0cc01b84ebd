import java.io.IOException;
import java.lang.reflect.Constructor;
import java.lang.reflect.Field;
import java.lang.reflect.Member;
import java.lang.reflect.Method;
import java.lang.reflect.Modifier;
import java.nio.file.Files;
import java.nio.file.Path;
import java.util.Arrays;
import java.util.Set;
import java.util.TreeSet;
import java.util.regex.Matcher;
import java.util.regex.Pattern;

/** The face is the document's, and the source keeps to what can be seen from outside of LANGUAGE.md. */
final class FaceTest {
    private static final String METHODS = """
        int set(int,int,int)
        int rider(int,int,int)
        int told(int,int)
        int feed(int)
        int text()
        int force(int)
        int step(int)
        int day(int)
        int run(int,int,int)
        int takes(int)
        int fewest(int)
        int ease(int,int)
        int change(int,int)
        int bears(int,int)
        int all(int)
        int spread(int)
        int tells(int,int,int)
        int film(int,int,int)
        int drawn(int,int)
        long chance(int,int,int,int,int)
        int image()
        int back()
        int count(int)
        int sheet(int,int,int)
        int cell(int,int,int)
        int copy(int,int,int,int,int)
        int riders(int,int,int,int)
        int taken(int,int)
        """;

    public static void main(String[] args) throws IOException {
        Class<?> face = PuncturesAreViews.class;
        Check.due("modifiers", face.getModifiers(), Modifier.PUBLIC | Modifier.FINAL);
        Set<String> names = methods(face);
        fields(face);
        for (Constructor<?> c : face.getDeclaredConstructors()) {
            Check.holds("the constructor", Modifier.isPublic(c.getModifiers()) && c.getParameterCount() == 0);
        }
        Check.due("constructors", face.getDeclaredConstructors().length, 1);
        inside(face, names);
        source();
        Check.end();
    }

    private static Set<String> methods(Class<?> face) {
        Set<String> due = new TreeSet<>(Arrays.asList(METHODS.strip().split("\n")));
        Set<String> names = new TreeSet<>();
        for (String d : due) {
            names.add(d.replaceFirst("^\\w+ (\\w+).*$", "$1"));
        }
        Set<String> is = new TreeSet<>();
        for (Method m : face.getDeclaredMethods()) {
            if (Modifier.isPrivate(m.getModifiers())) {
                Check.holds("private " + m.getName() + " is no public name", !names.contains(m.getName()));
                continue;
            }
            Check.due("modifiers of " + m.getName(), m.getModifiers(), Modifier.PUBLIC);
            String types = Arrays.toString(m.getParameterTypes()).replaceAll("[\\[\\] ]", "");
            is.add(m.getReturnType().getName() + " " + m.getName() + "(" + types + ")");
        }
        Check.holds("methods " + is, is.equals(due));
        return names;
    }

    private static void fields(Class<?> face) {
        Set<String> open = new TreeSet<>();
        for (Field f : face.getDeclaredFields()) {
            if (!Modifier.isPrivate(f.getModifiers())) {
                Check.due("modifiers of " + f.getName(), f.getModifiers(), Modifier.PUBLIC | Modifier.STATIC | Modifier.FINAL);
                open.add(f.getType() + " " + f.getName());
            }
            isFinal(f);
        }
        Check.holds("constants " + open, open.equals(Set.of("int NONE", "int BAD", "int STATE", "int FULL", "long NO")));
    }

    private static void isFinal(Member f) {
        Check.holds(f.getName() + " is final, if static",
            !Modifier.isStatic(f.getModifiers()) || Modifier.isFinal(f.getModifiers()));
    }

    private static void inside(Class<?> face, Set<String> names) {
        Check.holds("classes", face.getDeclaredClasses().length < 12);
        for (Class<?> c : face.getDeclaredClasses()) {
            Check.holds(c + " is static", Modifier.isStatic(c.getModifiers()));
            Check.holds(c + " is not public", !Modifier.isPublic(c.getModifiers()));
            Check.holds(c + " has few fields", c.getDeclaredFields().length <= 20);
            for (Method m : c.getDeclaredMethods()) {
                Check.holds(m + " is no public name", !names.contains(m.getName()));
                Check.holds(m + " takes seven at most", m.getParameterCount() <= 7);
            }
            for (Field f : c.getDeclaredFields()) {
                isFinal(f);
            }
        }
    }

    private static void source() throws IOException {
        String source = Files.readString(Path.of("src/main/java/PuncturesAreViews.java"));
        String code = source.replaceAll("(?s)/\\*.*?\\*/", " ").replaceAll("//[^\n]*", " ")
            .replaceAll("\"[^\"\n]*\"", "\"\"");
        Matcher m = Pattern.compile("\\b(import|package|throw|throws|try|catch|finally|synchronized|assert|protected|yield|"
            + "var|record|volatile|transient|native|equals|hashCode|toString|System\\.(?!arraycopy)\\w+|Object|Exception)\\b"
            + "|->|::|@").matcher(code);
        while (m.find()) {
            Check.holds("no '" + m.group() + "' in the source", false);
        }
        library(code);
        methodsAreShort(code);
        Check.holds("all signs are ASCII", source.chars().allMatch(c -> c == '\n' || c >= 32 && c < 127));
        Check.due("one public class", code.split("\\bpublic final class\\b", -1).length, 2);
    }

    /** Of the library's classes, what LANGUAGE.md lists: functions, and no constants. */
    private static void library(String code) {
        Matcher used = Pattern.compile("\\b(Integer|Long|Math|System|Arrays|List|String|Character|Short|Byte|Boolean)\\.(\\w+)(\\(?)")
            .matcher(code);
        Set<String> allowed = Set.of("Math.max(", "Math.min(", "System.arraycopy(");
        while (used.find()) {
            Check.holds(used.group() + " is listed", allowed.contains(used.group()));
        }
        Set<String> own = new TreeSet<>();
        for (Class<?> c : PuncturesAreViews.class.getDeclaredClasses()) {
            own.add(c.getSimpleName());
        }
        Matcher made = Pattern.compile("\\bnew (\\w+)").matcher(code);
        while (made.find()) {
            Check.holds("new " + made.group(1) + " is its own", own.contains(made.group(1)) || made.group(1).equals("int"));
        }
        Matcher called = Pattern.compile("\\b[A-Z][A-Z_]+\\.(\\w+)\\(").matcher(code);
        while (called.find()) {
            Check.holds("String." + called.group(1) + " is listed", Set.of("length", "charAt", "indexOf").contains(called.group(1)));
        }
    }

    private static void methodsAreShort(String code) {
        int first = 0;
        int line = 0;
        for (String l : code.split("\n")) {
            line++;
            if (l.matches(" {4}( {4})?(public|private) .*\\) \\{")) {
                first = line;
            }
            if (l.matches(" {4}( {4})?\\}") && first > 0) {
                Check.holds("lines of the method at " + first, line - first < 60);
                first = 0;
            }
        }
    }
}
