/** Promises 25 to 29: sheet, cell, copy, riders, taken. */
final class HostTest {
    private static final int MAX = Integer.MAX_VALUE, MIN = Integer.MIN_VALUE;

    public static void main(String[] args) {
        sheets();
        refusesSheets();
        cells();
        copies();
        copiesWhatWas();
        refusesCopies();
        riders();
        ridersTillTheEnd();
        refusesRiders();
        taken();
        Check.end();
    }

    /** Items have no call that tells them but this: AIR of one who is home is what each would be. */
    private static void items(PuncturesAreViews x, int sheet, int... want) {
        x.image();
        if (x.count(0) == 0) {
            x.rider(0, 0, 0);
        }
        x.set(4, 0, 23);
        for (int i = 0; i < want.length; i++) {
            x.set(5, 0, want[i]);
            Check.due("copy", x.copy(sheet, i, 3, 0, 1), 1);
            Check.due("item " + i + " of sheet " + sheet, x.tells(3, 0, 0), -1);
        }
        x.back();
    }

    private static void sheets() {
        PuncturesAreViews x = new PuncturesAreViews();
        for (int sort = 0; sort < 3; sort++) {
            for (int n : new int[] {0, 1, 39, 40}) {
                Check.due("sheet", x.sheet(1, sort, n), 1);
                Check.due("its last", x.cell(1, n - 1, 5), n == 0 ? -12 : 1);
                Check.due("behind", x.cell(1, n, 5), -12);
            }
            x.sheet(3, sort, 1);
            Check.due("all 0 anew", x.sheet(1, sort, 3), 1);
            items(x, 1, 0, 0, 0);
        }
        for (int n : new int[] {0, -1, 41, MIN, MAX}) {
            x.sheet(1, 0, 3);
            Check.due("missing, n does not matter", x.sheet(1, -1, n), 1);
            Check.due("missing", x.cell(1, 0, 0), -11);
            Check.due("missing again", x.sheet(1, -1, n), 1);
        }
    }

    private static void refusesSheets() {
        PuncturesAreViews x = new PuncturesAreViews();
        x.sheet(1, 1, 5);
        for (int sheet : new int[] {-1, 4, MIN, MAX}) {
            Check.due("no such sheet", x.sheet(sheet, 0, 1), -2);
            Check.due("no such sheet", x.sheet(sheet, 0, -1), -2);
            Check.due("no such sheet", x.sheet(sheet, -1, 0), -2);
        }
        for (int sort : new int[] {-2, 3, MIN, MAX}) {
            Check.due("no such sort", x.sheet(1, sort, 1), -2);
            Check.due("no such sort, ahead of -14", x.sheet(1, sort, -1), -2);
        }
        for (int sort = 0; sort < 3; sort++) {
            Check.due("41", x.sheet(1, sort, 41), -2);
            Check.due("so many", x.sheet(1, sort, MAX), -2);
            Check.due("below 0", x.sheet(1, sort, -1), -14);
            Check.due("far below 0", x.sheet(1, sort, MIN), -14);
        }
        Check.due("stays", x.cell(1, 4, 0), 1);
        Check.due("stays of its sort", x.riders(1, 1, 0, 0), 0);
    }

    private static void cells() {
        PuncturesAreViews x = new PuncturesAreViews();
        for (int sort = 0; sort < 3; sort++) {
            Check.due("missing", x.cell(sort, 0, 0), -11);
            Check.due("missing ahead of outside", x.cell(sort, -1, 0), -11);
            x.sheet(sort, sort, 4);
            x.sheet(3, sort, 1);
            for (int i : new int[] {-1, 4, 40, MIN, MAX}) {
                Check.due("outside", x.cell(sort, i, 1), -12);
            }
            for (int i = 0; i < 4; i++) {
                Check.due("cell", x.cell(sort, i, 90 + i), 1);
            }
            items(x, sort, 90, 91, 92, 93);
        }
        for (int sheet : new int[] {-1, 4, MIN, MAX}) {
            Check.due("no such sheet", x.cell(sheet, 0, 0), -2);
        }
        x.cell(0, 0, 256 + 7);
        x.cell(0, 1, -256 + 8);
        x.cell(1, 0, 65536 + 9);
        x.cell(1, 1, -65536 + 10);
        x.sheet(3, 0, 1);
        items(x, 0, 7, 8, 92, 93);
        x.sheet(3, 1, 1);
        items(x, 1, 9, 10, 92, 93);
    }

    private static void copies() {
        PuncturesAreViews x = new PuncturesAreViews();
        Check.sheet(x, 0, 0, 1, 2, 3, 4, 5);
        Check.sheet(x, 1, 0, 10, 20, 30, 40);
        x.sheet(3, 0, 1);
        Check.due("three", x.copy(0, 2, 1, 1, 3), 3);
        items(x, 0, 1, 2, 3, 4, 5);
        items(x, 1, 10, 3, 4, 5);
        Check.due("none", x.copy(0, 0, 1, 0, 0), 0);
        Check.due("none at the end", x.copy(0, 5, 1, 4, 0), 0);
        items(x, 1, 10, 3, 4, 5);
        Check.due("all", x.copy(1, 0, 0, 0, 4), 4);
        items(x, 0, 10, 3, 4, 5, 5);
    }

    private static void copiesWhatWas() {
        for (int sort = 0; sort < 3; sort++) {
            PuncturesAreViews x = new PuncturesAreViews();
            x.sheet(3, sort, 1);
            Check.sheet(x, 0, sort, 1, 2, 3, 4, 5);
            Check.due("on", x.copy(0, 0, 0, 1, 4), 4);
            items(x, 0, 1, 1, 2, 3, 4);
            Check.due("back", x.copy(0, 1, 0, 0, 4), 4);
            items(x, 0, 1, 2, 3, 4, 4);
        }
    }

    private static void refusesCopies() {
        PuncturesAreViews x = new PuncturesAreViews();
        Check.sheet(x, 0, 0, 1, 2, 3);
        Check.sheet(x, 1, 1, 4, 5, 6);
        for (int sheet : new int[] {-1, 4, MIN, MAX}) {
            Check.due("no such sheet", x.copy(sheet, 0, 2, 0, 1), -2);
            Check.due("no such other", x.copy(2, 0, sheet, 0, 1), -2);
        }
        Check.due("missing", x.copy(0, 0, 2, 0, 1), -11);
        Check.due("missing", x.copy(2, 0, 0, 0, 1), -11);
        Check.due("missing ahead of outside", x.copy(2, 9, 2, 0, -1), -11);
        Check.due("unlike sorts", x.copy(0, 0, 1, 0, 1), -13);
        Check.due("unlike sorts ahead of outside", x.copy(0, 9, 1, 0, -1), -13);
        x.sheet(1, 0, 2);
        x.sheet(3, 0, 1);
        int[][] outside = {{0, 0, -1}, {-1, 0, 1}, {0, -1, 1}, {3, 0, 1}, {0, 2, 1}, {0, 0, 3}, {1, 0, 3}, {0, 1, 2}, {4, 0, 0},
            {0, 3, 0}, {-1, 0, 0}, {0, 0, MAX}, {0, 0, MIN}, {MAX, 0, 1}, {0, MAX, 1}, {MAX, MAX, MAX}, {MIN, MIN, MIN},
            {MIN, 0, 1}, {0, MIN, 1}, {MAX, 0, 0}, {1, 1, MAX}};
        for (int[] o : outside) {
            Check.due("outside", x.copy(0, o[0], 1, o[1], o[2]), -12);
        }
        items(x, 1, 0, 0);
    }

    private static void is(PuncturesAreViews x, int one, int kind, int number, int patches) {
        Check.due("kind", x.told(one, 6), kind);
        Check.due("number", x.told(one, 2), number);
        Check.due("patches", x.told(one, 3), patches);
        Check.due("at", x.told(one, 4), 0);
        Check.due("air", x.told(one, 5), 99);
        Check.due("flat", x.told(one, 7), 0);
    }

    private static void riders() {
        for (int sort = 0; sort < 3; sort++) {
            PuncturesAreViews x = new PuncturesAreViews();
            Check.sheet(x, 0, sort, 9, 1, 2, 3, 6, 0, 0, 5, 9, 9, 0, 10, 0, 4, 0, 0, 0, 0, 0, 0, 0, 0);
            Check.due("none", x.riders(0, sort, 1, 0), 0);
            Check.due("1 and 5, not 6, not by 10", x.riders(0, sort, 1, 4), 2);
            is(x, 0, 1, 2, 3);
            is(x, 1, 5, 9, 9);
            Check.due("three have room", x.riders(0, sort, 13, 3), 3);
            is(x, 2, 4, 0, 0);
            Check.due("no more has", x.riders(0, sort, 13, 3), 0);
            Check.due("five", x.count(0), 5);
        }
    }

    private static void ridersTillTheEnd() {
        PuncturesAreViews x = new PuncturesAreViews();
        Check.sheet(x, 0, 1, 1, 1, 1, 2, 2, 2, 3, 3);
        Check.due("the third is not whole", x.riders(0, 1, 0, 3), -12);
        Check.due("two came", x.count(0), 2);
        is(x, 1, 2, 2, 2);
        Check.due("no more is asked", x.riders(0, 1, 2, 2), 2);
        is(x, 3, 2, 3, 3);
        for (int from : new int[] {-1, 6, 7, 8, 9, MIN, MAX, MAX - 1, MAX - 2}) {
            Check.due("outside", x.riders(0, 1, from, 1), -12);
            Check.due("outside", x.riders(0, 1, from, 5), -12);
        }
        Check.due("four", x.count(0), 4);
        x.rider(0, 0, 0);
        Check.due("full, and outside then", x.riders(0, 1, 0, 3), -12);
        Check.due("full, left out", x.riders(0, 1, 0, 2), 0);
    }

    private static void refusesRiders() {
        PuncturesAreViews x = new PuncturesAreViews();
        Check.sheet(x, 0, 1, 1, 1, 1);
        int[][] bad = {{-1, 0, 0, 0}, {4, 0, 0, 0}, {0, -1, 0, 0}, {0, 3, 0, 0}, {0, 1, 0, -1}, {0, 1, 0, 6}, {1, -1, 0, 0},
            {1, 3, 0, 0}, {1, 0, 0, 6}, {MAX, 0, 0, 0}, {0, MIN, 0, 0}, {0, 1, 0, MAX}, {0, 0, 0, -1}};
        for (int[] b : bad) {
            Check.due("bad", x.riders(b[0], b[1], b[2], b[3]), -2);
        }
        Check.due("not bytes", x.riders(0, 0, 0, 1), -13);
        Check.due("not ints", x.riders(0, 2, 0, 0), -13);
        Check.due("not ints, ahead of outside", x.riders(0, 2, 9, 1), -13);
        for (int sort = 0; sort < 3; sort++) {
            Check.due("missing", x.riders(1, sort, 0, 1), -11);
            Check.due("missing", x.riders(1, sort, -9, 0), -11);
        }
        Check.due("nobody came", x.count(0), 0);
    }

    private static void taken() {
        PuncturesAreViews x = new PuncturesAreViews();
        int[] above = {1, 1 + 2, 1 + 4, 1 + 2 + 8, 1 + 4 + 16, 1 + 32};
        for (int kind = 0; kind < 6; kind++) {
            x.image();
            x.rider(kind, kind + 2, 0);
            for (int k = 0; k < 6; k++) {
                Check.due("one of " + kind + " as " + k, x.taken(0, k), (above[kind] >> k & 1) != 0 ? kind + 2 : -13);
            }
            x.back();
        }
        for (int k : new int[] {-1, 6, MIN, MAX}) {
            Check.due("no such kind, ahead of nobody", x.taken(0, k), -2);
        }
        for (int one : new int[] {-1, 0, MIN, MAX}) {
            Check.due("nobody", x.taken(one, 0), -11);
        }
    }
}
