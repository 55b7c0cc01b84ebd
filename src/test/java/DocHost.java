/** What the document says of the host's sheets, and in promises 25 to 29. */
final class DocHost {
    private static final int MIN = Integer.MIN_VALUE, MAX = Integer.MAX_VALUE;
    private static final int[] NO_SHEET = {-1, 4, MIN, MAX};

    private DocHost() {
    }

    static void says() {
        Doc.terms();
        sheets();
        leavesOut();
        sheet();
        cell();
        copy();
        riders();
        taken();
    }

    /** The items of a SHEET that are 0 .. 99: the least AIR of one at HOME by a row of one; -1 of others. */
    private static void items(PuncturesAreViews x, int sheet, int sort, int... due) {
        if (x.count(0) == 0) {
            x.rider(0, 0, 0);
        }
        int was = x.set(4, 0, 23);
        x.sheet(3, sort, 1);
        for (int i = 0; i < due.length; i++) {
            Check.due("copy", x.copy(sheet, i, 3, 0, 1), 1);
            Check.due("item " + i, x.tells(3, 0, 5), due[i]);
        }
        Check.due("as many", x.copy(sheet, due.length, sheet, due.length, 0), 0);
        Check.due("no more", x.cell(sheet, due.length, 0), -12);
        x.set(4, 0, was);
        x.sheet(3, -1, 0);
    }

    private static void sheets() {
        Doc.says("SHEETS 0 .. 3 are rows of numbers, or missing (as all are at first): of sort 0 bytes, 1 shorts, 2 ints.");
        PuncturesAreViews x = new PuncturesAreViews();
        for (int sheet = 0; sheet < 4; sheet++) {
            Check.due("missing", x.cell(sheet, 0, 0), -11);
        }
        for (int sheet : NO_SHEET) {
            Check.due("no SHEET", x.cell(sheet, 0, 0), -2);
        }
        for (int sheet = 0; sheet < 4; sheet++) {
            for (int sort = 0; sort < 3; sort++) {
                Check.due("a row", x.sheet(sheet, sort, 1 + sort), 1);
                for (int other = 0; other < 3; other++) {
                    Check.due("of sort " + sort, x.riders(sheet, other, 0, 0), other == sort ? 0 : -13);
                }
                Check.due("another one is missing", x.cell(sheet == 3 ? 0 : 3, 0, 0), -11);
            }
            Check.due("missing", x.sheet(sheet, -1, 0), 1);
            Check.due("missing", x.cell(sheet, 0, 0), -11);
        }
        Check.due("no sort", x.sheet(0, 3, 0), -2);
    }

    private static void leavesOut() {
        Doc.says("riders() leaves out what can't be.");
        int[][] cant = {{-1, 0, 0}, {6, 0, 0}, {0, -1, 0}, {0, 10, 0}, {0, 0, -1}, {0, 0, 10}};
        for (int[] c : cant) {
            PuncturesAreViews x = new PuncturesAreViews();
            Check.sheet(x, 0, 0, 1, 1, 1, c[0], c[1], c[2], 2, 2, 2);
            Check.due("two of three", x.riders(0, 0, 0, 3), 2);
            Check.due("two", x.count(0), 2);
            Check.due("the last came", x.told(1, 6), 2);
        }
        PuncturesAreViews x = new PuncturesAreViews();
        Check.sheet(x, 0, 0, 0, 0, 0, 1, 1, 1, 2, 2, 2, 3, 3, 3);
        Check.due("four", x.riders(0, 0, 0, 4), 4);
        Check.due("room for one", x.riders(0, 0, 3, 3), 1);
        Check.due("no room", x.riders(0, 0, 0, 4), 0);
        Check.due("five", x.count(0), 5);
    }

    private static void sheet() {
        Doc.promise(25);
        Doc.says("A SHEET becomes a row of n of a sort, all 0, or missing (sort -1: n does not matter): 1.");
        for (int sort = 0; sort < 3; sort++) {
            for (int n : new int[] {0, 1, 2, 20, 39, 40}) {
                PuncturesAreViews x = new PuncturesAreViews();
                Check.due("40", x.sheet(1, 2 - sort, 40), 1);
                for (int i = 0; i < 40; i++) {
                    Check.due("filled", x.cell(1, i, 7), 1);
                }
                Check.due("a row", x.sheet(1, sort, n), 1);
                items(x, 1, sort, new int[n]);
                if (n > 0) {
                    x.cell(1, n - 1, 7);
                    Check.due("anew", x.sheet(1, sort, n), 1);
                    items(x, 1, sort, new int[n]);
                }
            }
        }
        for (int n : new int[] {0, 1, 40, 41, -1, MIN, MAX}) {
            PuncturesAreViews x = new PuncturesAreViews();
            Check.due("missing", x.sheet(1, -1, n), 1);
            x.sheet(1, 0, 3);
            Check.due("missing", x.sheet(1, -1, n), 1);
            Check.due("missing", x.cell(1, 0, 0), -11);
        }
        Doc.says("BAD: no such SHEET, sort; n above 40; -14.");
        PuncturesAreViews x = new PuncturesAreViews();
        Check.sheet(x, 1, 1, 5, 6, 7);
        for (int sheet : NO_SHEET) {
            Check.due("no SHEET", x.sheet(sheet, 0, 1), -2);
            Check.due("no SHEET, missing", x.sheet(sheet, -1, 1), -2);
            Check.due("no SHEET ahead of -14", x.sheet(sheet, 0, -1), -2);
        }
        for (int sort : new int[] {-2, 3, MIN, MAX}) {
            Check.due("no sort", x.sheet(1, sort, 1), -2);
            Check.due("no sort ahead of -14", x.sheet(1, sort, -1), -2);
        }
        for (int sort = 0; sort < 3; sort++) {
            Check.due("41", x.sheet(1, sort, 41), -2);
            Check.due("so many", x.sheet(1, sort, MAX), -2);
            Check.due("-1", x.sheet(1, sort, -1), -14);
            Check.due("so few", x.sheet(1, sort, MIN), -14);
        }
        items(x, 1, 1, 5, 6, 7);
    }

    private static void cell() {
        Doc.promise(26);
        Doc.says("Item i of a SHEET becomes v (of bytes, shorts its lowest 8, 16 bits): 1.");
        int[] values = {5, 127, 128, 255, 256, 256 + 7, -256 + 8, -1, 32767, 32768, 65535, 65536, 65536 + 9, -65536 + 10, MAX, MIN,
            MIN + 11, 99, 100};
        for (int v : values) {
            PuncturesAreViews x = new PuncturesAreViews();
            int[] due = {(byte) v, (short) v, v};
            for (int sort = 0; sort < 3; sort++) {
                x.sheet(sort, sort, 3);
                Check.due("cell", x.cell(sort, 1, v), 1);
                int item = due[sort];
                items(x, sort, sort, 0, item < 0 || item > 99 ? -1 : item, 0);
                Check.due("anew", x.cell(sort, 1, 3), 1);
                items(x, sort, sort, 0, 3, 0);
            }
        }
        Doc.says("BAD: no such SHEET; -11; -12.");
        PuncturesAreViews x = new PuncturesAreViews();
        for (int sheet : NO_SHEET) {
            Check.due("no SHEET", x.cell(sheet, -1, 0), -2);
        }
        Check.due("nothing", x.cell(0, 0, 0), -11);
        Check.due("nothing ahead of outside", x.cell(0, -1, 0), -11);
        for (int n : new int[] {0, 1, 3, 40}) {
            x.sheet(0, 0, n);
            for (int i : new int[] {-1, n, n + 1, 41, MIN, MAX}) {
                Check.due("outside " + i + " of " + n, x.cell(0, i, 1), -12);
            }
            Check.due("the last of " + n, x.cell(0, n - 1, 1), n == 0 ? -12 : 1);
            Check.due("the first of " + n, x.cell(0, 0, 1), n == 0 ? -12 : 1);
        }
    }

    private static void copy() {
        Doc.promise(27);
        Doc.says("n numbers of a SHEET, from item i on, come to another one's item j on (as they were): n.");
        for (int sort = 0; sort < 3; sort++) {
            PuncturesAreViews x = new PuncturesAreViews();
            Check.sheet(x, 0, sort, 1, 2, 3, 4, 5, 6);
            Check.sheet(x, 1, sort, 10, 20, 30);
            Check.due("none", x.copy(0, 2, 1, 1, 0), 0);
            items(x, 1, sort, 10, 20, 30);
            Check.due("two", x.copy(0, 4, 1, 0, 2), 2);
            items(x, 0, sort, 1, 2, 3, 4, 5, 6);
            items(x, 1, sort, 5, 6, 30);
            Check.due("all", x.copy(1, 0, 0, 3, 3), 3);
            items(x, 0, sort, 1, 2, 3, 5, 6, 30);
            Check.due("on, as they were", x.copy(0, 0, 0, 1, 5), 5);
            items(x, 0, sort, 1, 1, 2, 3, 5, 6);
            Check.due("back, as they were", x.copy(0, 2, 0, 0, 4), 4);
            items(x, 0, sort, 2, 3, 5, 6, 5, 6);
            Check.due("to themselves", x.copy(0, 0, 0, 0, 6), 6);
            items(x, 0, sort, 2, 3, 5, 6, 5, 6);
            Check.due("none at the end", x.copy(0, 6, 1, 3, 0), 0);
        }
        PuncturesAreViews y = new PuncturesAreViews();
        Check.sheet(y, 0, 2, 70000, 7);
        Check.sheet(y, 1, 2, 70000, 0);
        y.sheet(2, 2, 1);
        y.copy(0, 0, 2, 0, 1);
        y.copy(2, 0, 1, 1, 1);
        items(y, 1, 2, -1, -1);
        Doc.says("BAD: no such SHEET; -11; -13: they are of unlike sorts; -12 (also with n below 0).");
        PuncturesAreViews x = new PuncturesAreViews();
        Check.sheet(x, 0, 0, 1, 2, 3);
        Check.sheet(x, 1, 1, 4, 5, 6);
        for (int sheet : NO_SHEET) {
            Check.due("no SHEET", x.copy(sheet, 0, 0, 0, 1), -2);
            Check.due("no other", x.copy(0, 0, sheet, 0, 1), -2);
            Check.due("no SHEET ahead of nothing", x.copy(sheet, 0, 2, 0, 1), -2);
            Check.due("no other ahead of nothing", x.copy(2, 0, sheet, 0, 1), -2);
        }
        Check.due("nothing", x.copy(2, 0, 0, 0, 1), -11);
        Check.due("nothing", x.copy(0, 0, 2, 0, 1), -11);
        Check.due("nothing, n 0", x.copy(2, 0, 2, 0, 0), -11);
        Check.due("nothing ahead of outside", x.copy(0, 9, 2, 9, -1), -11);
        Check.due("unlike", x.copy(0, 0, 1, 0, 1), -13);
        Check.due("unlike", x.copy(1, 0, 0, 0, 0), -13);
        Check.due("unlike ahead of outside", x.copy(0, 9, 1, 9, -1), -13);
        x.sheet(1, 0, 2);
        int[][] outside = {{0, 0, -1}, {-1, 0, 1}, {0, -1, 1}, {3, 0, 1}, {0, 2, 1}, {0, 0, 3}, {2, 0, 2}, {0, 1, 2}, {4, 0, 0},
            {0, 3, 0}, {-1, 0, 0}, {0, -1, 0}, {0, 0, MAX}, {0, 0, MIN}, {MAX, 0, 1}, {0, MAX, 1}, {MAX, MAX, MAX},
            {MIN, MIN, MIN}, {MIN, 0, 1}, {0, MIN, 1}, {MAX, 0, 0}, {1, 1, MAX}, {3, 2, -1}};
        for (int[] o : outside) {
            Check.due("outside", x.copy(0, o[0], 1, o[1], o[2]), -12);
        }
        items(x, 0, 0, 1, 2, 3);
        items(x, 1, 0, 0, 0);
    }

    private static void riders() {
        Doc.promise(28);
        Doc.says("RIDERS by a SHEET that is taken for one of a sort: from one on, three by three (as of rider()), n of them (0 .. "
            + "5): how many came (others are left out).");
        for (int sort = 0; sort < 3; sort++) {
            for (int n = 0; n <= 5; n++) {
                for (int from = 0; from < 3; from++) {
                    PuncturesAreViews x = new PuncturesAreViews();
                    Check.sheet(x, 2, sort, 0, 1, 2, 3, 4, 5, 1, 2, 3, 4, 5, 0, 5, 4, 3, 2, 1, 0);
                    x.sheet(3, sort, 0);
                    int[] row = {0, 1, 2, 3, 4, 5, 1, 2, 3, 4, 5, 0, 5, 4, 3, 2, 1, 0};
                    Check.due("from " + from + " on, " + n, x.riders(2, sort, from, n), n);
                    Check.due("so many", x.count(0), n);
                    for (int i = 0; i < n; i++) {
                        Check.due("KIND", x.told(i, 6), row[from + 3 * i]);
                        Check.due("NUMBER", x.told(i, 2), row[from + 3 * i + 1]);
                        Check.due("PATCHES", x.told(i, 3), row[from + 3 * i + 2]);
                        Check.due("AIR", x.told(i, 5), 99);
                    }
                }
            }
        }
        Doc.says("BAD: no such SHEET, sort, n; -13; -11; -12: what stood ahead came.");
        PuncturesAreViews x = new PuncturesAreViews();
        Check.sheet(x, 0, 1, 1, 1, 1, 2, 2, 2, 3, 3);
        for (int sheet : NO_SHEET) {
            Check.due("no SHEET", x.riders(sheet, 1, 0, 1), -2);
        }
        for (int sort : new int[] {-1, 3, MIN, MAX}) {
            Check.due("no sort", x.riders(0, sort, 0, 1), -2);
            Check.due("no sort ahead of nothing", x.riders(1, sort, 0, 1), -2);
        }
        for (int n : new int[] {-1, 6, MIN, MAX}) {
            Check.due("n " + n, x.riders(0, 1, 0, n), -2);
            Check.due("n ahead of another sort", x.riders(0, 0, 0, n), -2);
            Check.due("n ahead of nothing", x.riders(1, 0, 0, n), -2);
        }
        for (int sort : new int[] {0, 2}) {
            Check.due("another sort", x.riders(0, sort, 0, 1), -13);
            Check.due("another sort, n 0", x.riders(0, sort, 0, 0), -13);
            Check.due("another sort ahead of outside", x.riders(0, sort, -1, 1), -13);
        }
        for (int sort = 0; sort < 3; sort++) {
            Check.due("nothing", x.riders(1, sort, 0, 1), -11);
            Check.due("nothing, n 0", x.riders(1, sort, 0, 0), -11);
            Check.due("nothing ahead of outside", x.riders(1, sort, -1, 1), -11);
        }
        for (int from : new int[] {-1, -3, 6, 7, 8, 40, MIN, MAX}) {
            Check.due("outside from " + from, x.riders(0, 1, from, 1), -12);
            Check.due("outside from " + from, x.riders(0, 1, from, 5), -12);
        }
        Check.due("nobody came", x.count(0), 0);
        Check.due("outside, at the third", x.riders(0, 1, 0, 3), -12);
        Check.due("what stood ahead came", x.count(0), 2);
        Check.due("the first", x.told(0, 6), 1);
        Check.due("the second", x.told(1, 6), 2);
        Check.due("outside, at the second", x.riders(0, 1, 5, 5), -12);
        Check.due("what stood ahead came", x.count(0), 3);
        Check.due("the third", x.told(2, 6), 2);
        Check.due("to the end", x.riders(0, 1, 5, 1), 1);
    }

    private static void taken() {
        Doc.promise(29);
        Doc.says("A RIDER taken for one of KIND k (0 .. 5), or one under that one (also by others between): the NUMBER.");
        int[] above = {1, 1 + 2, 1 + 4, 1 + 2 + 8, 1 + 4 + 16, 1 + 32};
        for (int kind = 0; kind < 6; kind++) {
            for (int number = 0; number < 10; number++) {
                PuncturesAreViews x = new PuncturesAreViews();
                x.rider(5, 1, 0);
                x.rider(kind, number, 0);
                for (int k = 0; k < 6; k++) {
                    Check.due("a " + kind + " as a " + k, x.taken(1, k), (above[kind] >> k & 1) == 1 ? number : -13);
                }
            }
        }
        Doc.says("BAD: k; -11: no such RIDER; -13.");
        PuncturesAreViews x = new PuncturesAreViews();
        x.rider(3, 7, 0);
        for (int k : new int[] {-1, 6, MIN, MAX}) {
            Check.due("k " + k, x.taken(0, k), -2);
            Check.due("k ahead of nobody", x.taken(1, k), -2);
        }
        for (int one : new int[] {-1, 1, 5, MIN, MAX}) {
            for (int k = 0; k < 6; k++) {
                Check.due("nobody " + one, x.taken(one, k), -11);
            }
        }
        Check.due("no DULL one", x.taken(0, 2), -13);
        Check.due("a CURATE", x.taken(0, 1), 7);
    }
}
