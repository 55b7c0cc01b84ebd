import java.util.ArrayList;
import java.util.List;
import java.util.function.Supplier;
import java.util.function.ToLongFunction;

/**
 * Each call's refusals: that they answer what is due, the first that the call's words name ahead of
 * the others, and that they change nothing. So do the calls that tell what would be.
 */
final class RefusalsTest {
    private static final int MIN = Integer.MIN_VALUE, MAX = Integer.MAX_VALUE;
    private static final int[] NOBODY = {-1, 5, MIN, MAX}, NO_SHEET = {-1, 4, MIN, MAX};
    private static final String TEXT = "lets 4;holds 5;pumps 6;";

    public static void main(String[] args) {
        looksAtAll(RefusalsTest::three);
        looksAtAll(RefusalsTest::full);
        looksAtAll(RefusalsTest::empty);
        refusesAnywhere(RefusalsTest::three);
        refusesAnywhere(RefusalsTest::full);
        refusesAnywhere(RefusalsTest::empty);
        refusesWhenThree();
        refusesWhenFull();
        refusesWhenEmpty();
        changesNothingInThought(RefusalsTest::three);
        changesNothingInThought(RefusalsTest::full);
        changesNothingByAFault();
        changesWhatStoodAhead();
        Check.end();
    }

    // ---- objects to be refused by

    /** Three RIDERS, one of them HOME, two TEXTS, a tape that is a TEXT, an IMAGE, three rows and a missing one. */
    private static PuncturesAreViews three() {
        PuncturesAreViews x = new PuncturesAreViews();
        Check.thoughts(x, "315926535897932384626433");
        x.rider(0, 3, 4);
        x.rider(3, 2, 1);
        Check.read(x, "lets 9;holds 8;pumps 7;");
        x.force(1);
        x.set(0, 0, 8);
        x.image();
        x.rider(5, 9, 0);
        x.day(4);
        x.set(1, 0, 9);
        x.set(4, 2, 23);
        x.force(0);
        Check.feed(x, TEXT);
        Check.sheet(x, 0, 0, 1, 2, 3, 4, 5, 6);
        Check.sheet(x, 1, 1, 7, 8, 9);
        Check.sheet(x, 2, 2, 10, 11, 12, 13);
        return x;
    }

    /** Five RIDERS, six TEXTS, a tape that is full, the last DAY, no IMAGE, no SHEET. */
    private static PuncturesAreViews full() {
        PuncturesAreViews x = new PuncturesAreViews();
        for (int i = 0; i < 5; i++) {
            x.rider(i, 9 - i, i);
        }
        for (int i = 1; i < 6; i++) {
            for (char c : ("lets " + i + ";holds 8;pumps 7;").toCharArray()) {
                x.feed(c);
            }
            x.text();
        }
        for (int i = 0; i < 160; i++) {
            x.feed(32);
        }
        x.set(0, 0, 999);
        x.set(1, 7, 7);
        x.set(4, 4, 23);
        return x;
    }

    private static PuncturesAreViews empty() {
        return new PuncturesAreViews();
    }

    // ---- all that can be told of an object

    private static void tellsRiders(PuncturesAreViews x, List<Integer> all) {
        all.add(x.told(0, 0));
        for (int place = 0; place < 24; place++) {
            all.add(x.told(place, 1));
        }
        for (int one = 0; one < 5; one++) {
            for (int what = 2; what <= 10; what++) {
                all.add(x.told(one, what));
            }
        }
        for (int what = 0; what < 6; what++) {
            all.add(x.count(what));
        }
    }

    /** By a RIDER who is HOME: the least AIR by which a row of one is so is what it holds. */
    private static void tellsSheet(PuncturesAreViews x, int sheet, List<Integer> all) {
        for (int sort = 0; sort < 3; sort++) {
            int sorted = x.riders(sheet, sort, 0, 0);
            all.add(sorted);
            x.sheet(3, sort, 1);
            for (int i = 0; i < 8 && sorted == 0; i++) {
                all.add(x.copy(sheet, i, sheet, i, 0));
                all.add(x.copy(sheet, i, 3, 0, 1));
                all.add(x.tells(3, 0, 5));
            }
        }
    }

    /** A long row: it changes the object, which is not used any more. */
    private static List<Integer> tellsAll(PuncturesAreViews x) {
        List<Integer> all = new ArrayList<>();
        tellsRiders(x, all);
        int rule = x.count(5);
        for (int text = 0; text < 6; text++) {
            x.force(text);
            for (int what = 8; what <= 10; what++) {
                all.add(x.told(0, what));
            }
        }
        x.force(rule);
        all.add(x.cell(3, 0, 0));
        if (x.count(0) > 0) {
            int at = x.set(4, 0, 23);
            for (int sheet = 0; sheet < 3; sheet++) {
                tellsSheet(x, sheet, all);
            }
            x.set(4, 0, at);
        }
        all.add(x.text());
        all.add(x.force(x.count(3) - 1));
        all.add(x.told(0, 8));
        all.add(x.back());
        tellsRiders(x, all);
        return all;
    }

    /** That what is told is no less than what is there: any change but one shows. */
    private static void looksAtAll(Supplier<PuncturesAreViews> made) {
        List<Integer> was = tellsAll(made.get());
        Check.holds("the same is made anew", was.equals(tellsAll(made.get())));
        boolean any = made.get().count(0) > 0;
        boolean three = any && made.get().count(0) < 5;
        sees(made, was, "a THOUGHT", x -> x.set(1, 23, 1));
        sees(made, was, "DAY", x -> x.set(0, 0, 5));
        for (int what = 2; any && what < 6; what++) {
            int asked = what;
            sees(made, was, "of one " + what, x -> x.set(asked, 1, x.told(1, asked) == 3 ? 4 : 3));
        }
        if (three) {
            sees(made, was, "a RIDER", x -> x.rider(0, 0, 0));
            sees(made, was, "THE TAPE", x -> x.feed(';'));
            sees(made, was, "an IMAGE", x -> x.image());
            sees(made, was, "THE RULE", x -> x.force(1));
            sees(made, was, "a cell", x -> x.cell(0, 5, 0));
            sees(made, was, "a cell", x -> x.cell(1, 2, 0));
            sees(made, was, "a cell", x -> x.cell(2, 0, 0));
            sees(made, was, "a size", x -> x.sheet(1, 1, 4));
            sees(made, was, "a row", x -> x.sheet(3, 0, 0));
            sees(made, was, "no row", x -> x.sheet(0, -1, 0));
        }
    }

    private static void sees(Supplier<PuncturesAreViews> made, List<Integer> was, String what,
            ToLongFunction<PuncturesAreViews> call) {
        PuncturesAreViews x = made.get();
        call.applyAsLong(x);
        Check.holds("a change of " + what + " shows", !was.equals(tellsAll(x)));
    }

    // ---- what is looked at

    private static void leaves(Supplier<PuncturesAreViews> made, String what, long due,
            ToLongFunction<PuncturesAreViews> call) {
        PuncturesAreViews x = made.get();
        Check.due(what, call.applyAsLong(x), due);
        Check.holds(what + " changes nothing", tellsAll(x).equals(tellsAll(made.get())));
    }

    private static void changesNothing(Supplier<PuncturesAreViews> made, String what, ToLongFunction<PuncturesAreViews> call) {
        PuncturesAreViews x = made.get();
        call.applyAsLong(x);
        Check.holds(what + " changes nothing", tellsAll(x).equals(tellsAll(made.get())));
    }

    /** What no object does. */
    private static void refusesAnywhere(Supplier<PuncturesAreViews> made) {
        int[] most = {999, 9, 9, 9, 23, 99};
        for (int what = 0; what < 6; what++) {
            int asked = what;
            for (int v : new int[] {-1, most[what] + 1, MIN, MAX}) {
                leaves(made, "set " + what + " " + v, -2, x -> x.set(asked, 0, v));
            }
        }
        for (int what : new int[] {-1, 6, MIN, MAX}) {
            leaves(made, "set what " + what, -2, x -> x.set(what, 0, 0));
        }
        for (int bad : new int[] {-1, 10, MIN, MAX}) {
            leaves(made, "rider of KIND " + bad, -2, x -> x.rider(bad, 0, 0));
            leaves(made, "rider of NUMBER " + bad, -2, x -> x.rider(0, bad, 0));
            leaves(made, "rider of PATCHES " + bad, -2, x -> x.rider(0, 0, bad));
        }
        leaves(made, "rider of KIND 6", -2, x -> x.rider(6, 0, 0));
        for (int place : new int[] {-1, 24, MIN, MAX}) {
            leaves(made, "set at " + place, -2, x -> x.set(1, place, 0));
            leaves(made, "told at " + place, -2, x -> x.told(place, 1));
        }
        for (int letter : new int[] {-1, 256, MIN, MAX}) {
            leaves(made, "feed " + letter, -2, x -> x.feed(letter));
        }
        for (int text : new int[] {-1, 6, MIN, MAX}) {
            leaves(made, "force " + text, -2, x -> x.force(text));
        }
        for (int n : new int[] {-1, 61, MIN, MAX}) {
            leaves(made, "day " + n, -2, x -> x.day(n));
            leaves(made, "run " + n, -2, x -> x.run(0, n, 0));
        }
        for (int what : new int[] {-1, 5, MIN, MAX}) {
            leaves(made, "all " + what, -2, x -> x.all(what));
            leaves(made, "run what " + what, -2, x -> x.run(0, 0, what));
        }
        for (int what : new int[] {-1, 2, MIN, MAX}) {
            leaves(made, "spread " + what, -2, x -> x.spread(what));
            leaves(made, "ease " + what, -2, x -> x.ease(0, what));
            leaves(made, "change " + what, -2, x -> x.change(0, what));
        }
        for (int what : new int[] {-1, 6, MIN, MAX}) {
            leaves(made, "count " + what, -2, x -> x.count(what));
        }
        refusesNobody(made);
        refusesSheets(made);
    }

    private static void refusesNobody(Supplier<PuncturesAreViews> made) {
        for (int one : NOBODY) {
            for (int what = 2; what <= 10; what++) {
                int asked = what;
                leaves(made, "set of " + one, -2, x -> asked < 6 ? x.set(asked, one, 0) : -2);
                leaves(made, "told of " + one, -2, x -> x.told(one, asked));
            }
            leaves(made, "step " + one, -2, x -> x.step(one));
            leaves(made, "run " + one, -2, x -> x.run(one, 0, 0));
            leaves(made, "takes " + one, -2, x -> x.takes(one));
            leaves(made, "fewest " + one, -2, x -> x.fewest(one));
            leaves(made, "ease " + one, -2, x -> x.ease(one, 0));
            leaves(made, "change " + one, -2, x -> x.change(one, 0));
            leaves(made, "bears " + one, -2, x -> x.bears(one, 3));
            leaves(made, "tells " + one, -2, x -> x.tells(0, one, 0));
            leaves(made, "film " + one, -2, x -> x.film(0, one, 3));
            leaves(made, "drawn " + one, -2, x -> x.drawn(0, one));
            leaves(made, "chance " + one, PuncturesAreViews.NO, x -> x.chance(0, 1, one, 0, 0));
            leaves(made, "taken " + one, -11, x -> x.taken(one, 0));
            leaves(made, "taken as no KIND, " + one, -2, x -> x.taken(one, 6));
        }
        for (int k : new int[] {-1, 6, MIN, MAX}) {
            leaves(made, "taken as " + k, -2, x -> x.taken(0, k));
        }
    }

    private static void refusesSheets(Supplier<PuncturesAreViews> made) {
        for (int sheet : NO_SHEET) {
            leaves(made, "sheet " + sheet, -2, x -> x.sheet(sheet, 0, 1));
            leaves(made, "sheet missing " + sheet, -2, x -> x.sheet(sheet, -1, 1));
            leaves(made, "sheet below 0 " + sheet, -2, x -> x.sheet(sheet, 0, -1));
            leaves(made, "cell " + sheet, -2, x -> x.cell(sheet, 0, 1));
            leaves(made, "copy of " + sheet, -2, x -> x.copy(sheet, 0, 0, 0, 1));
            leaves(made, "copy to " + sheet, -2, x -> x.copy(0, 0, sheet, 0, 1));
            leaves(made, "copy to " + sheet + " of a missing one", -2, x -> x.copy(3, 0, sheet, 0, 1));
            leaves(made, "riders " + sheet, -2, x -> x.riders(sheet, 0, 0, 1));
            leaves(made, "film " + sheet, -2, x -> x.film(sheet, 0, 1));
            leaves(made, "tells " + sheet, -2, x -> x.tells(sheet, 0, 0));
        }
        for (int sort : new int[] {-2, 3, MIN, MAX}) {
            leaves(made, "sheet of " + sort, -2, x -> x.sheet(0, sort, 1));
            leaves(made, "sheet of " + sort + ", below 0", -2, x -> x.sheet(0, sort, -1));
            leaves(made, "riders of " + sort, -2, x -> x.riders(0, sort, 0, 1));
            leaves(made, "riders of " + sort + ", missing", -2, x -> x.riders(3, sort, 0, 1));
        }
        leaves(made, "riders of -1", -2, x -> x.riders(0, -1, 0, 1));
        for (int sort = 0; sort < 3; sort++) {
            int asked = sort;
            for (int n : new int[] {41, MAX}) {
                leaves(made, "sheet " + n, -2, x -> x.sheet(0, asked, n));
            }
            for (int n : new int[] {-1, MIN}) {
                leaves(made, "sheet " + n, -14, x -> x.sheet(0, asked, n));
            }
            for (int n : new int[] {-1, 6, MIN, MAX}) {
                leaves(made, "riders " + n, -2, x -> x.riders(0, asked, 0, n));
                leaves(made, "riders " + n + ", missing", -2, x -> x.riders(3, asked, 0, n));
            }
            leaves(made, "riders by a missing one", -11, x -> x.riders(3, asked, 0, 1));
            leaves(made, "riders by a missing one, outside", -11, x -> x.riders(3, asked, -1, 0));
        }
        for (int n : new int[] {-1, 31, MIN, MAX}) {
            leaves(made, "film " + n, -2, x -> x.film(0, 0, n));
        }
        leaves(made, "cell of a missing one", -11, x -> x.cell(3, 0, 1));
        leaves(made, "cell of a missing one, outside", -11, x -> x.cell(3, -1, 1));
        leaves(made, "copy of a missing one", -11, x -> x.copy(3, 0, 3, 0, 1));
        leaves(made, "copy of a missing one, outside", -11, x -> x.copy(3, -1, 3, -1, -1));
    }

    private static void refusesWhenThree() {
        Supplier<PuncturesAreViews> made = RefusalsTest::three;
        leaves(made, "step of one at HOME", -3, x -> x.step(2));
        leaves(made, "force of a text that is not yet", -2, x -> x.force(2));
        leaves(made, "step of one who is not yet", -2, x -> x.step(3));
        leaves(made, "bears at -1", -2, x -> x.bears(0, -1));
        leaves(made, "bears at 24", -2, x -> x.bears(0, 24));
        leaves(made, "bears at 24, at HOME", -2, x -> x.bears(2, 24));
        for (int bad : new int[] {-1, 7, 8, 9, 34, MIN, MAX}) {
            leaves(made, "tells " + bad, -2, x -> x.tells(0, 0, bad));
            leaves(made, "tells " + bad + " by a missing one", -2, x -> x.tells(3, 0, bad));
        }
        leaves(made, "tells by a missing one", -11, x -> x.tells(3, 0, 0));
        for (int bad : new int[] {-1, 0, 21, MIN, MAX}) {
            leaves(made, "chance of m " + bad, PuncturesAreViews.NO, x -> x.chance(0, bad, 0, 0, 0));
        }
        for (int bad : new int[] {-1, 241, MIN, MAX}) {
            leaves(made, "chance of k " + bad, PuncturesAreViews.NO, x -> x.chance(0, 1, 0, bad, 0));
        }
        for (int bad : new int[] {-1, 2, MIN, MAX}) {
            leaves(made, "chance of part " + bad, PuncturesAreViews.NO, x -> x.chance(0, 1, 0, 0, bad));
        }
        leaves(made, "copy of unlike sorts", -13, x -> x.copy(0, 0, 1, 0, 1));
        leaves(made, "copy of unlike sorts, outside", -13, x -> x.copy(0, -1, 1, -1, -1));
        leaves(made, "copy to a missing one", -11, x -> x.copy(0, 0, 3, 0, 1));
        int[][] outside = {{0, 0, -1}, {-1, 0, 1}, {0, -1, 1}, {6, 0, 1}, {0, 6, 1}, {1, 0, 6}, {0, 1, 6}, {0, 0, 7}, {0, 0, MAX},
            {MAX, MAX, MAX}, {MIN, 0, 1}, {0, MIN, 1}, {0, 0, MIN}, {5, 5, MAX}, {MAX, 0, 1}, {0, MAX, 1}};
        for (int[] o : outside) {
            leaves(made, "copy outside", -12, x -> x.copy(0, o[0], 0, o[1], o[2]));
        }
        for (int i : new int[] {-1, 6, MIN, MAX}) {
            leaves(made, "cell outside", -12, x -> x.cell(0, i, 1));
            leaves(made, "riders outside", -12, x -> x.riders(0, 0, i, 1));
        }
        leaves(made, "riders of another sort", -13, x -> x.riders(0, 1, 0, 1));
        leaves(made, "riders of another sort, outside", -13, x -> x.riders(0, 1, -1, 1));
        leaves(made, "taken as another KIND", -13, x -> x.taken(0, 1));
        leaves(made, "taken as another KIND", -13, x -> x.taken(1, 2));
    }

    private static void refusesWhenFull() {
        Supplier<PuncturesAreViews> made = RefusalsTest::full;
        leaves(made, "rider, full", -4, x -> x.rider(0, 0, 0));
        leaves(made, "feed, full", -4, x -> x.feed('l'));
        leaves(made, "text, full", -4, x -> x.text());
        leaves(made, "day, the last", -3, x -> x.day(1));
        leaves(made, "day of none, the last", -3, x -> x.day(0));
        leaves(made, "step at HOME", -3, x -> x.step(4));
        leaves(made, "spread of five", -3, x -> x.spread(0));
        leaves(made, "spread of five", -3, x -> x.spread(1));
        leaves(made, "back to none", -3, x -> x.back());
        for (int sheet = 0; sheet < 4; sheet++) {
            int s = sheet;
            leaves(made, "tells by a missing one", -11, x -> x.tells(s, 0, 0));
            leaves(made, "cell of a missing one", -11, x -> x.cell(s, 0, 0));
        }
    }

    private static void refusesWhenEmpty() {
        Supplier<PuncturesAreViews> made = RefusalsTest::empty;
        leaves(made, "step of nobody", -2, x -> x.step(0));
        leaves(made, "takes of nobody", -2, x -> x.takes(0));
        leaves(made, "bears of nobody", -2, x -> x.bears(0, 0));
        leaves(made, "tells of nobody", -2, x -> x.tells(0, 0, 0));
        leaves(made, "film of nobody", -2, x -> x.film(0, 0, 0));
        leaves(made, "drawn of nobody", -2, x -> x.drawn(0, 0));
        leaves(made, "chance of nobody", PuncturesAreViews.NO, x -> x.chance(0, 1, 0, 0, 0));
        leaves(made, "taken of nobody", -11, x -> x.taken(0, 0));
        leaves(made, "back to none", -3, x -> x.back());
        leaves(made, "force of a text that is not yet", -2, x -> x.force(1));
    }

    /** Calls that tell what would be, and what is. */
    private static void changesNothingInThought(Supplier<PuncturesAreViews> made) {
        for (int i = 0; i < 5; i++) {
            int one = i;
            for (int what = 0; what < 5; what++) {
                int asked = what;
                changesNothing(made, "run", x -> x.run(one, 60, asked));
                changesNothing(made, "all", x -> x.all(asked));
            }
            changesNothing(made, "takes", x -> x.takes(one));
            changesNothing(made, "fewest", x -> x.fewest(one));
            changesNothing(made, "spread", x -> x.spread(one % 2));
            for (int what = 0; what < 2; what++) {
                int asked = what;
                changesNothing(made, "ease", x -> x.ease(one, asked));
                changesNothing(made, "change", x -> x.change(one, asked));
                changesNothing(made, "chance", x -> x.chance(one, 20, one, 25, asked));
            }
            changesNothing(made, "bears", x -> x.bears(one, 20));
            changesNothing(made, "drawn", x -> x.drawn(one, one));
            changesNothing(made, "taken", x -> x.taken(one, 0));
            for (int what = 0; what < 34; what++) {
                int asked = what;
                changesNothing(made, "tells", x -> x.tells(0, one, asked));
                changesNothing(made, "told", x -> x.told(one, asked));
                changesNothing(made, "count", x -> x.count(asked));
            }
        }
    }

    /** A FAULT leaves all but THE TAPE. */
    private static void changesNothingByAFault() {
        PuncturesAreViews x = three();
        Check.due("behind the text", x.feed('?'), TEXT.length() + 1);
        Check.due("a fault", x.text(), -100 - TEXT.length());
        Check.due("no tape", x.count(4), 0);
        Check.feed(x, TEXT);
        Check.holds("a fault changes nothing else", tellsAll(x).equals(tellsAll(three())));
    }

    /** What stood ahead of a place outside came; nothing else did. */
    private static void changesWhatStoodAhead() {
        PuncturesAreViews x = three();
        Check.due("one, and then outside", x.riders(0, 0, 0, 3) + 100 * x.count(0), -12 + 100 * 5);
        PuncturesAreViews y = three();
        y.rider(1, 2, 3);
        y.rider(4, 5, 6);
        Check.holds("they came", tellsAll(x).equals(tellsAll(y)));
    }
}
