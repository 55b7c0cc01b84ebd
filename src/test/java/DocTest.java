import java.io.IOException;
import java.nio.file.Files;
import java.nio.file.Path;

/** The document, sentence by sentence, in the order in which it stands there. */
final class DocTest {
    public static void main(String[] args) throws IOException {
        Doc.open();
        DocRoad.says();
        DocTexts.says();
        DocSteps.says();
        DocBest.says();
        DocTold.says();
        DocHost.says();
        face();
        Doc.end();
        Check.end();
    }

    private static void face() throws IOException {
        Doc.terms();
        part("set", "Ahead of the calls `set`, `rider`, `told` the interface says: ---- the road, riders.");
        part("feed", "Ahead of the calls `feed`, `text`, `force` the interface says: ---- texts.");
        part("step", "Ahead of the calls `step`, `day`, `run`, `takes` the interface says: ---- steps.");
        part("fewest", "Ahead of the calls `fewest`, `ease`, `change`, `bears`, `all`, `spread` the interface says: "
            + "---- what would be best.");
        part("tells", "Ahead of the calls `tells`, `film`, `drawn`, `chance`, `image`, `back`, `count` the interface says: "
            + "---- tyres that were told.");
        part("sheet", "Ahead of the calls `sheet`, `cell`, `copy`, `riders`, `taken` the interface says: ---- the host.");
    }

    /** The source says so, too, ahead of the first of these calls. */
    private static void part(String first, String words) throws IOException {
        Doc.says(words);
        String title = words.substring(words.indexOf("----"), words.length() - 1);
        String source = Files.readString(Path.of("src/main/java/PuncturesAreViews.java"));
        Check.holds(title, source.matches("(?s).*\n    // " + title + "\n\n    public int " + first + "\\(.*"));
    }
}
