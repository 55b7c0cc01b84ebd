import java.io.IOException;
import java.nio.file.Files;
import java.nio.file.Path;

/** The example of README.md: each of its calls stands there with the answer that it has. */
final class ReadmeTest {
    private static String[] lines;
    private static int next;

    public static void main(String[] args) throws IOException {
        String readme = Files.readString(Path.of("README.md"));
        lines = readme.substring(readme.indexOf("```java\n") + 8).split("\n```", 2)[0].split("\n");
        PuncturesAreViews x = new PuncturesAreViews();
        line("PuncturesAreViews x = new PuncturesAreViews();");
        line("x.set(1, 2, 9);", x.set(1, 2, 9));
        line("x.set(1, 5, 9);", x.set(1, 5, 9));
        int one = x.rider(0, 3, 1);
        line("int one = x.rider(0, 3, 1);", one);
        line("x.takes(one);", x.takes(one));
        line("x.bears(one, 5);", x.bears(one, 5));
        line("x.ease(one, 0);", x.ease(one, 0));
        line("for (char c : \"lets thought * 9 ; holds 50 ; pumps 2 ;\".toCharArray()) {");
        Check.feed(x, "lets thought * 9 ; holds 50 ; pumps 2 ;");
        line("    x.feed(c);                  // 1 .. " + x.count(4) + ":");
        line("}");
        int text = x.text();
        line("int text = x.text();", text);
        line("x.force(text);", x.force(text));
        line("x.step(one);", x.step(one));
        line("x.step(one);", x.step(one));
        line("x.takes(7);", x.takes(7));
        Check.due("lines", lines.length, next);
        Check.end();
    }

    /** The next line starts with this. */
    private static void line(String start) {
        String is = next < lines.length ? lines[next] : "";
        Check.holds("'" + is + "' starts with '" + start + "'", is.startsWith(start));
        next++;
    }

    private static void line(String call, int answer) {
        String is = next < lines.length ? lines[next] : "";
        Check.holds("'" + is + "' tells " + answer, is.matches(".*// " + answer + "[,:].*"));
        line(call);
    }
}
