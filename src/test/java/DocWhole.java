import java.io.IOException;
import java.nio.file.Files;
import java.nio.file.Path;
import java.util.regex.Matcher;
import java.util.regex.Pattern;

/** What the document says of the whole: "What it is", told as one story of one object, and the face. */
final class DocWhole {
    private static final Path SOURCE = Path.of("src/main/java/PuncturesAreViews.java");
    private static final int THOUGHT = 1, PATCHES = 3, AT = 4, AIR = 5, KIND = 6, FLAT = 7, LETS = 8, HOLDS = 9, PUMPS = 10;

    private DocWhole() {
    }

    static void says() throws IOException {
        Doc.whatItIs();
        PuncturesAreViews x = road();
        rides(x);
        texts(x);
        best(x);
        told(x);
        laidBack(x);
        calls();
        face(Files.readString(SOURCE));
        parts(Files.readString(SOURCE));
    }

    /** Heavy at 2 and at 5; a RIDER with a PATCH is flat at 5: 99, 36, 37, 38, 0, then 40 and 1 more each. */
    private static PuncturesAreViews road() {
        Doc.says("Punctures are points of view: a road of twenty four places each of which brings a thought, so heavy, up to five "
            + "riders of kinds on tyres that go down at a place where they have just thought what won't bear it, with patches, "
            + "so many;");
        PuncturesAreViews x = new PuncturesAreViews();
        Check.thoughts(x, "009009000000000000000000");
        for (int place = 0; place < 24; place++) {
            Check.due("thought at " + place, x.told(place, THOUGHT), place == 2 || place == 5 ? 9 : 0);
        }
        Check.due("no place more", x.told(24, THOUGHT), -2);
        for (int kind = 0; kind < 5; kind++) {
            Check.due("rider", x.rider(kind, 3, kind == 0 ? 1 : 0), kind);
            Check.due("kind", x.told(kind, KIND), kind);
            Check.due("patches", x.told(kind, PATCHES), kind == 0 ? 1 : 0);
        }
        Check.due("no rider more", x.rider(0, 0, 0), -4);
        Check.due("kept", x.image(), 5);
        return x;
    }

    private static void rides(PuncturesAreViews x) {
        Doc.says("who rides on, walks, or is flat;");
        int[] rider = {99, 36, 37, 38, 0, 40, 41};
        for (int i = 0; i < rider.length; i++) {
            Check.due("rides on, step " + i, x.step(0), rider[i]);
        }
        Check.due("at", x.told(0, AT), 6);
        Check.due("was flat", x.told(0, FLAT), 1);
        // a CURATE of 3 lets 63 out at 2 and at 5
        int[] curate = {99, 36, 37, 38, 0, 0, 0};
        for (int i = 0; i < curate.length; i++) {
            Check.due("walks, step " + i, x.step(1), curate[i]);
        }
        Check.due("at", x.told(1, AT), 7);
        Check.due("was flat", x.told(1, FLAT), 1);
    }

    private static void texts(PuncturesAreViews x) {
        Doc.says("by a rule of texts how much a thought lets out, how much a patch holds, what comes back in by the way;");
        Check.due("text", Check.read(x, "lets thought*2;holds 60;pumps 5;"), 1);
        x.set(AT, 0, 5);
        int[][] due = {{63, 40, 1}, {18, 60, 5}};
        for (int text = 0; text < 2; text++) {
            x.force(text);
            Check.due("lets out by " + text, x.told(0, LETS), due[text][0]);
            Check.due("holds by " + text, x.told(0, HOLDS), due[text][1]);
            Check.due("comes in by " + text, x.told(0, PUMPS), due[text][2]);
        }
        Doc.says("who is where, with how much air, by steps;");
        Check.due("back", x.back(), 5);
        Check.due("where", x.run(0, 7, 0), 6);
        Check.due("with how much air", x.run(0, 7, 1), 41);
    }

    private static void best(PuncturesAreViews x) {
        Doc.says("how few patches bring one home, where one had best think nothing, which two thoughts to change, what is heaviest "
            + "to bear, who is home first, where most are flat;");
        Check.due("takes", x.takes(0), 24);
        Check.due("few patches", x.fewest(0), 1);
        Check.due("think nothing at", x.ease(0, 0), 2);
        Check.due("takes then", x.ease(0, 1), 23);
        Check.due("change", x.change(0, 0), 2);
        Check.due("takes then", x.change(0, 1), 23);
        Check.due("heaviest to bear", x.bears(0, 5), 5);
        Check.due("home first", x.all(0), 1);
        Check.due("takes", x.all(1), 23);
        // the DOUBTER is flat there, too; those who are DULL or BOLD are not
        Check.due("most are flat", x.all(2), 5);
        Check.due("so many", x.all(3), 3);
    }

    private static void told(PuncturesAreViews x) {
        Doc.says("what was told of a tyre, read back: of which kind a rider is, what was thought, with how much air one came, by "
            + "which text;");
        Check.due("told", x.film(0, 0, 7), 7);
        Check.due("so", x.tells(0, 0, 0), -1);
        Check.due("of KIND RIDER", x.tells(0, 0, 1), 1);
        Check.due("9 was thought at 2", x.tells(0, 0, 12), 1 << 9);
        Check.due("6 or more was thought at 5", x.tells(0, 0, 15), 0b1111000000);
        Check.due("with 98 or 99", x.tells(0, 0, 4), 2);
        Check.due("with 98 at least", x.tells(0, 0, 5), 98);
        Check.due("by text 0", x.tells(0, 0, 6), 1);
        Doc.says("thoughts that are drawn;");
        PuncturesAreViews y = new PuncturesAreViews();
        y.rider(0, 3, 9);
        int z = 12;
        for (int place = 0; place < 24; place++) {
            z = z * 1103515245 + 12345;
            y.set(THOUGHT, place, (z >>> 9) % 10);
        }
        x.set(PATCHES, 0, 9);
        Check.due("drawn", x.drawn(12, 0), y.takes(0));
        Check.due("in one seed", x.chance(12, 1, 0, y.takes(0), 0), 1);
        Check.due("in no seed", x.chance(12, 1, 0, y.takes(0) - 1, 0), 0);
    }

    private static void laidBack(PuncturesAreViews x) {
        Doc.says("all laid back.");
        x.day(20);
        x.set(THOUGHT, 7, 7);
        Check.due("back", x.back(), 5);
        Check.due("thought", x.told(7, THOUGHT), 0);
        Check.due("day", x.told(0, 0), 0);
        for (int i = 0; i < 5; i++) {
            Check.due("at", x.told(i, AT), 0);
            Check.due("air", x.told(i, AIR), 99);
            Check.due("flat", x.told(i, FLAT), 0);
            Check.due("patches", x.told(i, PATCHES), i == 0 ? 1 : 0);
        }
    }

    private static void calls() {
        Doc.says("An object is used for at most 512 calls after it has been made; what later calls answer is free.");
        PuncturesAreViews x = new PuncturesAreViews();
        Check.due("call 1", x.rider(0, 0, 9), 0);
        for (int call = 2; call < 512; call++) {
            Check.due("call " + call, x.set(AT, 0, call % 24), call == 2 ? 0 : (call - 1) % 24);
        }
        Check.due("call 512", x.takes(0), 23 - 511 % 24);
        for (int call = 513; call < 2000; call++) {
            x.day(60);
            x.rider(0, 0, 0);
            x.feed(call % 256);
            x.text();
        }
    }

    /** Each public line of the source stands in the document's face, and, by Doc.end(), each of that in the source. */
    private static void face(String source) {
        Doc.face();
        Doc.says("public final class PuncturesAreViews {");
        Doc.says("}");
        Matcher line = Pattern.compile("(?m)^    public (.*?)( \\{|;)$").matcher(source);
        while (line.find()) {
            Doc.says("public " + line.group(1) + ";");
        }
    }

    private static void parts(String source) {
        Doc.terms();
        part(source, "set", "Ahead of the calls `set`, `rider`, `told` the interface says: ---- the road, riders.");
        part(source, "feed", "Ahead of the calls `feed`, `text`, `force` the interface says: ---- texts.");
        part(source, "step", "Ahead of the calls `step`, `day`, `run`, `takes` the interface says: ---- steps.");
        part(source, "fewest", "Ahead of the calls `fewest`, `ease`, `change`, `bears`, `all`, `spread` the interface says: "
            + "---- what would be best.");
        part(source, "tells", "Ahead of the calls `tells`, `film`, `drawn`, `chance`, `image`, `back`, `count` the interface says: "
            + "---- tyres that were told.");
        part(source, "sheet", "Ahead of the calls `sheet`, `cell`, `copy`, `riders`, `taken` the interface says: ---- the host.");
    }

    /** The source says so, too, ahead of the first of these calls. */
    private static void part(String source, String first, String words) {
        Doc.says(words);
        String title = words.substring(words.indexOf("----"), words.length() - 1);
        Check.holds(title, source.matches("(?s).*\n    // " + title + "\n\n    public int " + first + "\\(.*"));
    }
}
