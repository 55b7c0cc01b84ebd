/** Promises 12 to 17: fewest, ease, change, bears, all, spread. */
final class BestTest {
    private static final int MAX = Integer.MAX_VALUE, MIN = Integer.MIN_VALUE;

    public static void main(String[] args) {
        fewest();
        eases();
        easesWhereOneIs();
        changes();
        changesFarPlaces();
        bears();
        bearsNothing();
        all();
        spreads();
        spreadsLessersFirst();
        changesNothing();
        Check.end();
    }

    private static PuncturesAreViews road(String thoughts) {
        PuncturesAreViews x = new PuncturesAreViews();
        Check.thoughts(x, thoughts);
        return x;
    }

    private static void fewest() {
        PuncturesAreViews x = road("099");
        Check.due("nobody", x.fewest(0), -2);
        x.rider(0, 0, 0);
        Check.due("flat once, 1 patch", x.fewest(0), 1);
        x.set(3, 0, 9);
        Check.due("by no PATCHES that are", x.fewest(0), 1);
        x.set(1, 2, 0);
        Check.due("never flat", x.fewest(0), 0);
        Check.rule(x, "lets 99; holds 1; pumps 0;");
        Check.due("not by any", x.fewest(0), -1);
        x.set(4, 0, 13);
        Check.due("not by 8: flat nine times on the way", x.fewest(0), 9);
        x.set(4, 0, 14);
        Check.due("flat at 15 .. 22", x.fewest(0), 8);
        x.set(5, 0, 0);
        Check.due("flat now", x.fewest(0), 9);
        x.set(4, 0, 23);
        Check.due("home", x.fewest(0), 0);
        for (int one : new int[] {1, -1, MIN, MAX}) {
            Check.due("nobody", x.fewest(one), -2);
        }
    }

    private static void eases() {
        PuncturesAreViews x = road("0999");
        x.rider(0, 0, 2);
        // 36 at 1, flat at 2, 40 behind a patch, flat at 3, a patch
        Check.due("takes", x.takes(0), 25);
        Check.due("without one of these, flat once: the first", x.ease(0, 0), 1);
        Check.due("takes then", x.ease(0, 1), 24);
        x.set(1, 1, 0);
        x.set(3, 0, 1);
        Check.due("takes", x.takes(0), 24);
        Check.due("the first of 2 and 3", x.ease(0, 0), 2);
        Check.due("takes then", x.ease(0, 1), 23);
        x.set(3, 0, 0);
        Check.due("no fewer", x.ease(0, 0), -1);
        Check.due("as so", x.ease(0, 1), 23);
        x.set(4, 0, 23);
        Check.due("home", x.ease(0, 0), -1);
        Check.due("home", x.ease(0, 1), 0);
        for (int[] bad : new int[][] {{1, 0}, {-1, 0}, {0, 2}, {0, -1}, {MIN, 0}, {0, MAX}, {1, 1}}) {
            Check.due("bad", x.ease(bad[0], bad[1]), -2);
        }
    }

    /** What a patch holds goes by the THOUGHT where one is. */
    private static void easesWhereOneIs() {
        PuncturesAreViews x = road("5");
        Check.rule(x, "lets (at = 1) * 20; holds 50 - thought * 9; pumps 0;");
        x.rider(0, 0, 2);
        x.set(5, 0, 0);
        Check.due("5 held, flat at 1", x.takes(0), 25);
        Check.due("place 0", x.ease(0, 0), 0);
        Check.due("takes then", x.ease(0, 1), 24);
        Check.due("0 and 1", x.change(0, 0), 1);
        Check.due("takes then", x.change(0, 1), 24);
    }

    private static void changes() {
        PuncturesAreViews x = road("099");
        x.rider(0, 0, 1);
        Check.due("0 and 1", x.change(0, 0), 1);
        Check.due("takes then", x.change(0, 1), 23);
        Check.due("takes now", x.takes(0), 24);
        x.set(3, 0, 0);
        Check.due("no fewer", x.change(0, 0), -1);
        Check.due("as so", x.change(0, 1), 23);
        x.set(4, 0, 23);
        Check.due("home", x.change(0, 0), -1);
        Check.due("home", x.change(0, 1), 0);
        for (int[] bad : new int[][] {{1, 0}, {-1, 0}, {0, 2}, {0, -1}, {MIN, 0}, {0, MAX}}) {
            Check.due("bad", x.change(bad[0], bad[1]), -2);
        }
    }

    private static void changesFarPlaces() {
        PuncturesAreViews x = road("999900000000000000000000");
        Check.rule(x, "lets (thought = 9) * 60 ; holds 40 ; pumps 0 ;");
        x.rider(0, 0, 1);
        x.set(4, 0, 1);
        // at 2: 39, at 3: flat, a patch
        Check.due("takes", x.takes(0), 23);
        Check.due("2 and 4 .. 22: flat there, yet; 2 and 23: home ahead of a patch", x.change(0, 0), 223);
        Check.due("takes then", x.change(0, 1), 22);
        Check.rule(x, "lets (thought = 9) * (50 - (10 < at) * 40) ; holds 40 ; pumps 0 ;");
        Check.due("49, flat at 3", x.takes(0), 23);
        Check.due("takes then", x.change(0, 1), 22);
        Check.due("2 and the first behind 10", x.change(0, 0), 211);
        // any other change, were it left as it was, would hide this one
        PuncturesAreViews y = road("990990000000000000000009");
        Check.rule(y, "lets (thought = 9) * (60 - (at = 22) * 50) ; holds 40 ; pumps 0 ;");
        y.rider(0, 0, 1);
        y.set(4, 0, 1);
        Check.due("flat at 4", y.takes(0), 23);
        Check.due("3 and 22", y.change(0, 0), 322);
        Check.due("takes then", y.change(0, 1), 22);
    }

    private static void bears() {
        PuncturesAreViews x = road("099");
        x.rider(0, 0, 1);
        Check.due("AT 0", x.bears(0, 0), -1);
        Check.due("99 bear all", x.bears(0, 1), 9);
        Check.due("37 bear 35", x.bears(0, 2), 5);
        Check.due("41, behind a patch", x.bears(0, 3), 5);
        Check.due("42", x.bears(0, 4), 5);
        Check.due("43", x.bears(0, 5), 6);
        x.set(3, 0, 0);
        Check.due("walks", x.bears(0, 3), 9);
        Check.due("37 bear 35", x.bears(0, 2), 5);
        x.set(4, 0, 22);
        Check.due("behind", x.bears(0, 21), -1);
        Check.due("here", x.bears(0, 22), -1);
        Check.due("home", x.bears(0, 23), 9);
        x.set(5, 0, 13);
        Check.due("14 is not above 14", x.bears(0, 23), 1);
        x.set(5, 0, 1);
        Check.due("2 bear nothing, but no thought", x.bears(0, 23), 0);
        x.set(4, 0, 23);
        Check.due("is home", x.bears(0, 23), -1);
        for (int[] bad : new int[][] {{1, 0}, {-1, 0}, {0, 24}, {0, -1}, {MIN, 0}, {0, MAX}}) {
            Check.due("bad", x.bears(bad[0], bad[1]), -2);
        }
    }

    private static void bearsNothing() {
        PuncturesAreViews x = road("");
        x.rider(0, 0, 0);
        Check.rule(x, "lets 99 ; holds 40 ; pumps 0 ;");
        Check.due("not by any", x.bears(0, 1), -1);
        Check.due("walks there", x.bears(0, 2), 9);
        // a thought that helps: the heaviest counts, not the lightest
        Check.rule(x, "lets (1 - (thought = 4 or thought = 6)) * 99 ; holds 40 ; pumps 0 ;");
        Check.due("4 and 6", x.bears(0, 1), 6);
    }

    private static void all() {
        PuncturesAreViews x = road("099");
        int[] nobody = {-1, -1, -1, 0, 0};
        for (int what = 0; what < 5; what++) {
            Check.due("nobody " + what, x.all(what), nobody[what]);
        }
        x.rider(0, 0, 1);
        x.rider(5, 0, 0);
        x.rider(0, 0, 0);
        x.rider(0, 0, 2);
        int[] four = {1, 23, 2, 3, 94};
        for (int what = 0; what < 5; what++) {
            Check.due("four " + what, x.all(what), four[what]);
        }
        x.set(4, 3, 10);
        x.set(1, 11, 9);
        x.set(5, 3, 60);
        // rider 0 is flat at 2 and 11, riders 2 and 3 at 2 and at 11, each once
        int[] far = {3, 14, 2, 2, 23 + 1 + 23 + 23 + 14};
        for (int what = 0; what < 5; what++) {
            Check.due("far " + what, x.all(what), far[what]);
        }
        x.set(4, 0, 23);
        x.set(5, 0, 0);
        Check.due("home is first", x.all(0), 0);
        Check.due("home takes", x.all(1), 0);
        Check.due("the first of like ones", x.all(2), 2);
        Check.due("one there", x.all(3), 1);
        for (int what : new int[] {-1, 5, MIN, MAX}) {
            Check.due("bad", x.all(what), -2);
        }
    }

    private static void spreads() {
        PuncturesAreViews x = road("099");
        Check.due("nobody", x.spread(0), 0);
        Check.due("nobody", x.spread(1), 0);
        x.rider(0, 0, 1);
        Check.due("one keeps his", x.spread(0), 1);
        Check.due("takes", x.spread(1), 24);
        x.rider(5, 0, 0);
        Check.due("the THINKER has it", x.spread(0), 1);
        Check.due("takes then", x.spread(1), 46);
        Check.due("takes now", x.all(4), 47);
        x.rider(5, 0, 0);
        Check.due("the last has it", x.spread(0), 1);
        Check.due("takes then", x.spread(1), 69);
        for (int what : new int[] {-1, 2, MIN, MAX}) {
            Check.due("bad", x.spread(what), -2);
        }
        x.rider(0, 0, 0);
        Check.due("four", x.spread(0), -3);
        Check.due("four", x.spread(1), -3);
        Check.due("bad ahead of state", x.spread(2), -2);
    }

    private static void spreadsLessersFirst() {
        PuncturesAreViews x = road("099");
        x.rider(5, 0, 0);
        x.rider(0, 0, 3);
        Check.due("the THINKER has all", x.spread(0), 30);
        x.rider(0, 0, 9);
        Check.due("a RIDER has none; of like ones, the THINKER has less", x.spread(0), 309);
        Check.due("takes then", x.spread(1), 23 + 23 + 24);
        x.set(3, 0, 9);
        x.set(3, 1, 9);
        Check.due("no room but as it is", x.spread(0), 999);
        x.set(3, 0, 0);
        x.set(3, 1, 0);
        x.set(3, 2, 0);
        Check.due("none to deal", x.spread(0), 0);
        Check.due("takes", x.spread(1), 69);
        PuncturesAreViews y = road("");
        y.rider(0, 0, 9);
        y.rider(0, 0, 0);
        y.rider(0, 0, 2);
        Check.due("all like: lesser ones ahead", y.spread(0), 29);
    }

    private static void changesNothing() {
        PuncturesAreViews x = road("0991");
        x.rider(0, 0, 2);
        x.fewest(0);
        x.ease(0, 0);
        x.change(0, 0);
        x.bears(0, 2);
        x.all(2);
        x.spread(0);
        int[] is = {0, 2, 0, 99, 0, 0};
        for (int what = 2; what < 8; what++) {
            Check.due("rider " + what, x.told(0, what), is[what - 2]);
        }
        for (int place = 0; place < 24; place++) {
            Check.due("thought " + place, x.told(place, 1), place == 1 || place == 2 ? 9 : place == 3 ? 1 : 0);
        }
    }
}
