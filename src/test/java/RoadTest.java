/** Promises 1 to 4: a new object, set, rider, told. */
final class RoadTest {
    private static final int MIN = Integer.MIN_VALUE, MAX = Integer.MAX_VALUE;

    public static void main(String[] args) {
        isNew();
        sets();
        setRefuses();
        admits();
        tellsWhatIsHeld();
        tellsLets();
        tellsHoldsAndPumps();
        laysBoundsOnce();
        Check.end();
    }

    private static void isNew() {
        PuncturesAreViews x = new PuncturesAreViews();
        Check.due("no riders", x.count(0), 0);
        Check.due("no rider 0", x.told(0, 6), -2);
        for (int place = 0; place < 24; place++) {
            Check.due("no thought at " + place, x.told(place, 1), 0);
        }
        Check.due("day", x.told(0, 0), 0);
        Check.due("texts", x.count(3), 1);
        Check.due("tape", x.count(4), 0);
        Check.due("the rule", x.count(5), 0);
        for (int sheet = 0; sheet < 4; sheet++) {
            Check.due("sheet missing", x.cell(sheet, 0, 0), -11);
        }
        Check.due("no image", x.back(), -3);
        Check.due("NONE", PuncturesAreViews.NONE, -1);
        Check.due("BAD", PuncturesAreViews.BAD, -2);
        Check.due("STATE", PuncturesAreViews.STATE, -3);
        Check.due("FULL", PuncturesAreViews.FULL, -4);
        Check.due("NO", PuncturesAreViews.NO, -(1L << 62));
    }

    private static void sets() {
        PuncturesAreViews x = new PuncturesAreViews();
        x.rider(0, 4, 5);
        x.rider(3, 6, 7);
        int[] most = {999, 9, 9, 9, 23, 99};
        int[] first = {0, 0, 6, 7, 0, 99};
        for (int what = 0; what < 6; what++) {
            Check.due("set first " + what, x.set(what, 1, most[what]), first[what]);
            Check.due("told " + what, x.told(1, what), most[what]);
            Check.due("set again " + what, x.set(what, 1, 0), most[what]);
            Check.due("told 0 " + what, x.told(1, what), 0);
            Check.due("over " + what, x.set(what, 1, most[what] + 1), -2);
            Check.due("below " + what, x.set(what, 1, -1), -2);
            Check.due("far over " + what, x.set(what, 1, MAX), -2);
            Check.due("far below " + what, x.set(what, 1, MIN), -2);
            Check.due("stays " + what, x.told(1, what), 0);
        }
        Check.due("the other's number", x.told(0, 2), 4);
        Check.due("the other's patches", x.told(0, 3), 5);
        Check.due("the other's air", x.told(0, 5), 99);
        Check.due("day of any", x.set(0, MIN, 12), 0);
        Check.due("day of any", x.set(0, MAX, 13), 12);
        Check.due("the last place", x.set(1, 23, 8), 0);
        Check.due("the last place", x.told(23, 1), 8);
    }

    private static void setRefuses() {
        PuncturesAreViews x = new PuncturesAreViews();
        for (int what = 2; what < 6; what++) {
            Check.due("nobody yet " + what, x.set(what, 0, 0), -2);
        }
        x.rider(0, 0, 0);
        for (int what = 2; what < 6; what++) {
            Check.due("one behind " + what, x.set(what, 1, 0), -2);
            Check.due("one ahead " + what, x.set(what, -1, 0), -2);
            Check.due("far " + what, x.set(what, MIN, 0), -2);
            Check.due("there " + what, x.set(what, 0, 0), what == 5 ? 99 : 0);
        }
        Check.due("no such what", x.set(6, 0, 0), -2);
        Check.due("no such what", x.set(-1, 0, 0), -2);
        Check.due("no such what", x.set(MAX, 0, 0), -2);
        Check.due("no such place", x.set(1, 24, 0), -2);
        Check.due("no such place", x.set(1, -1, 0), -2);
        Check.due("no such place", x.set(1, MAX, 0), -2);
    }

    private static void admits() {
        PuncturesAreViews x = new PuncturesAreViews();
        int[][] bad = {{-1, 0, 0}, {6, 0, 0}, {0, -1, 0}, {0, 10, 0}, {0, 0, -1}, {0, 0, 10}, {MIN, 0, 0}, {0, MAX, 0}, {0, 0, MAX}};
        for (int[] b : bad) {
            Check.due("bad rider", x.rider(b[0], b[1], b[2]), -2);
        }
        Check.due("none came", x.count(0), 0);
        for (int i = 0; i < 5; i++) {
            Check.due("rider " + i, x.rider(i + 1, 9 - i, i + 5), i);
        }
        for (int i = 0; i < 5; i++) {
            int[] is = {9 - i, i + 5, 0, 99, i + 1, 0};
            for (int what = 2; what < 8; what++) {
                Check.due("of rider " + i + " " + what, x.told(i, what), is[what - 2]);
            }
        }
        Check.due("full", x.rider(0, 0, 0), -4);
        Check.due("bad ahead of full", x.rider(6, 0, 0), -2);
        Check.due("five", x.count(0), 5);
    }

    private static void tellsWhatIsHeld() {
        PuncturesAreViews x = new PuncturesAreViews();
        x.set(0, 0, 77);
        Check.due("day of any", x.told(MIN, 0), 77);
        Check.due("day of any", x.told(99, 0), 77);
        Check.due("no place", x.told(24, 1), -2);
        Check.due("no place", x.told(-1, 1), -2);
        Check.due("nobody", x.told(0, 2), -2);
        x.rider(4, 3, 2);
        Check.due("kind", x.told(0, 6), 4);
        for (int what : new int[] {-1, 11, 12, MIN, MAX}) {
            Check.due("no such what", x.told(0, what), -2);
        }
        for (int what = 2; what < 11; what++) {
            Check.due("one behind", x.told(1, what), -2);
            Check.due("one ahead", x.told(-1, what), -2);
        }
    }

    /** One of a kind and a number AT place 3 with a thought there: 7 times it is what a RIDER lets out. */
    private static int lets(int kind, int number, int thought) {
        PuncturesAreViews x = new PuncturesAreViews();
        x.rider(kind, number, 0);
        x.set(4, 0, 3);
        x.set(1, 3, thought);
        return x.told(0, 8);
    }

    private static void tellsLets() {
        Check.due("RIDER", lets(0, 3, 6), 42);
        Check.due("CURATE", lets(1, 3, 6), 84);
        Check.due("CURATE by 5", lets(1, 8, 6), 84);
        Check.due("CURATE elsewhere", lets(1, 4, 6), 42);
        Check.due("CURATE bounded", lets(1, 3, 9), 99);
        Check.due("DULL", lets(2, 3, 6), 21);
        Check.due("DULL cut", lets(2, 3, 5), 17);
        Check.due("DOUBTER", lets(3, 3, 6), 87);
        Check.due("DOUBTER elsewhere", lets(3, 9, 6), 51);
        Check.due("DOUBTER bounded", lets(3, 3, 8), 99);
        Check.due("BOLD", lets(4, 3, 4), 14);
        Check.due("BOLD below 4", lets(4, 3, 3), 0);
        Check.due("THINKER", lets(5, 3, 9), 0);
    }

    private static void holdsAndPumps(PuncturesAreViews x, int[] holds, int[] pumps) {
        for (int i = 0; i < 5; i++) {
            Check.due("HOLDS of rider " + i, x.told(i, 9), holds[i]);
            Check.due("PUMPS of rider " + i, x.told(i, 10), pumps[i]);
        }
    }

    private static void tellsHoldsAndPumps() {
        PuncturesAreViews x = new PuncturesAreViews();
        for (int kind = 1; kind < 6; kind++) {
            x.rider(kind, 7, 1);
        }
        holdsAndPumps(x, new int[] {30, 40, 15, 45, 1}, new int[] {1, 2, 1, 2, 7});
        x.set(0, 0, 1);
        holdsAndPumps(x, new int[] {30, 40, 15, 45, 1}, new int[] {1, 2, 0, 2, 7});
        x.set(0, 0, 998);
        Check.due("DOUBTER on an even day", x.told(2, 10), 1);
    }

    private static void laysBoundsOnce() {
        PuncturesAreViews x = new PuncturesAreViews();
        for (int kind = 1; kind < 6; kind++) {
            x.rider(kind, 0, 1);
        }
        Check.rule(x, "lets 150; holds 0; pumps - 5;");
        holdsAndPumps(x, new int[] {1, 1, 1, 5, 1}, new int[] {0, 1, 0, 1, 0});
        Check.due("a RIDER's 99, half", x.told(1, 8), 49);
        Check.due("a RIDER's 99, twice", x.told(0, 8), 99);
        Check.rule(x, "lets -1; holds 300; pumps 300;");
        holdsAndPumps(x, new int[] {89, 99, 44, 99, 1}, new int[] {99, 99, 99, 99, 0});
        Check.due("no less than 0", x.told(0, 8), 0);
        Check.rule(x, "lets 0; holds 14; pumps 98;");
        holdsAndPumps(x, new int[] {4, 14, 2, 19, 1}, new int[] {98, 99, 98, 99, 0});
        Check.rule(x, "lets 0; holds 3; pumps 0;");
        holdsAndPumps(x, new int[] {1, 3, 1, 8, 1}, new int[] {0, 1, 0, 1, 0});
        x.rider(0, 0, 0);
    }
}
