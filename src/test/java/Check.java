/** Counts answers that are not the ones due; a test ends with end(). */
final class Check {
    private static int asked = 0;
    private static int wrong = 0;

    /** What the answers that follow are about. */
    static String about = "";

    private Check() {
    }

    static void due(String call, long got, long want) {
        asked++;
        if (got != want) {
            wrong++;
            System.out.println((about.isEmpty() ? "" : about + ": ") + call + " answered " + got + ", due is " + want);
        }
    }

    static void holds(String what, boolean is) {
        due(what, is ? 1 : 0, 1);
    }

    /** Feeds a text's bytes, all of which have room. */
    static void feed(PuncturesAreViews x, String text) {
        for (int i = 0; i < text.length(); i++) {
            due("feed of '" + text + "' at " + i, x.feed(text.charAt(i)), x.count(4));
        }
    }

    /** What text() answers on a tape that has just this. */
    static int read(PuncturesAreViews x, String text) {
        feed(x, text);
        return x.text();
    }

    /** A text that is new becomes the rule. */
    static void rule(PuncturesAreViews x, String text) {
        int number = read(x, text);
        holds("'" + text + "' is a text", number > 0);
        x.force(number);
    }

    /** THOUGHTS of the places from 0 on, a digit each. */
    static void thoughts(PuncturesAreViews x, String digits) {
        for (int place = 0; place < digits.length(); place++) {
            x.set(1, place, digits.charAt(place) - '0');
        }
    }

    /** A sheet of a sort with these items. */
    static void sheet(PuncturesAreViews x, int sheet, int sort, int... items) {
        due("sheet", x.sheet(sheet, sort, items.length), 1);
        for (int i = 0; i < items.length; i++) {
            due("cell", x.cell(sheet, i, items[i]), 1);
        }
    }

    static void end() {
        System.out.println(asked + " asked, " + wrong + " wrong");
        if (wrong != 0) {
            System.exit(1);
        }
    }
}
