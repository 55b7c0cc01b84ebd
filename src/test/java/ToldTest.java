/** Promises 18 to 24: tells, film, drawn, chance, image, back, count. */
final class ToldTest {
    private static final int MAX = Integer.MAX_VALUE, MIN = Integer.MIN_VALUE;

    public static void main(String[] args) {
        tellsFirst();
        tellsBits();
        tellsAirs();
        tellsByAirAsItIs();
        tellsTexts();
        tellsOfSorts();
        refusesToTell();
        films();
        draws();
        chances();
        refusesChances();
        keepsImages();
        keepsTheLastImage();
        counts();
        Check.end();
    }

    private static PuncturesAreViews heavyTwice(int patches) {
        PuncturesAreViews x = new PuncturesAreViews();
        Check.thoughts(x, "099");
        x.rider(0, 3, patches);
        return x;
    }

    private static void tellsFirst() {
        PuncturesAreViews x = heavyTwice(1);
        Check.sheet(x, 0, 0);
        Check.due("nothing is told", x.tells(0, 0, 0), -1);
        Check.sheet(x, 0, 0, 36, 0, 40, 41, 42);
        Check.due("all is so", x.tells(0, 0, 0), -1);
        Check.sheet(x, 0, 0, 36, 0, 40, 41, 43);
        Check.due("the last is otherwise", x.tells(0, 0, 0), 4);
        Check.sheet(x, 0, 0, 35, 0, 40, 41, 43);
        Check.due("the first is otherwise", x.tells(0, 0, 0), 0);
        Check.sheet(x, 0, 0, 36, 0, 0, 0);
        Check.due("one patches", x.tells(0, 0, 0), 2);
        x.set(3, 0, 0);
        Check.due("one walks", x.tells(0, 0, 0), -1);
        Check.due("one stays", x.told(0, 4), 0);
    }

    private static void tellsBits() {
        PuncturesAreViews x = heavyTwice(1);
        Check.sheet(x, 1, 0, 36, 0, 40, 41, 42);
        Check.due("KINDS", x.tells(1, 0, 1), 1);
        Check.due("NUMBERS", x.tells(1, 0, 2), 1023);
        Check.due("PATCHES", x.tells(1, 0, 3), 1022);
        Check.due("TEXTS", x.tells(1, 0, 6), 1);
        int[] thoughts = {1023, 1 << 9, 64 + 128 + 256 + 512, 1, 1, 1023, 1023};
        for (int place = 0; place < 24; place++) {
            Check.due("THOUGHTS at " + place, x.tells(1, 0, 10 + place), place < 6 ? thoughts[place] : 1023);
        }
        x.set(1, 1, 3);
        Check.due("nothing fits", x.tells(1, 0, 1), 0);
        Check.due("nothing fits", x.tells(1, 0, 2), 0);
        Check.due("nothing fits", x.tells(1, 0, 3), 0);
        Check.due("nothing fits", x.tells(1, 0, 6), 0);
        Check.due("that it be heavier", x.tells(1, 0, 11), 1 << 9);
        Check.due("nothing fits", x.tells(1, 0, 12), 0);
        // at 1: 99 less 63 by a CURATE 0, 2, 3, .. and less 99 by 1 and 6
        PuncturesAreViews y = new PuncturesAreViews();
        Check.thoughts(y, "09");
        y.rider(1, 0, 0);
        Check.sheet(y, 1, 0, 36);
        Check.due("NUMBERS of a CURATE", y.tells(1, 0, 2), 1023 - 2 - 64);
        Check.due("KINDS, but DULL, BOLD, THINKER", y.tells(1, 0, 1), 1 + 2 + 8);
        y.set(0, 0, 1);
        Check.due("a DOUBTER's odd day, 99 less 63 yet", y.tells(1, 0, 1), 1 + 2 + 8);
        y.set(5, 0, 98);
        Check.due("98 less 63 on an odd day", y.tells(1, 0, 1), 1 + 2);
    }

    private static void tellsAirs() {
        PuncturesAreViews x = heavyTwice(1);
        Check.sheet(x, 1, 0, 36, 0, 40);
        Check.due("98 and 99", x.tells(1, 0, 4), 2);
        Check.due("98", x.tells(1, 0, 5), 98);
        Check.sheet(x, 1, 0, 0, 40);
        Check.due("1 .. 62 are flat at 1", x.tells(1, 0, 4), 62);
        Check.due("1", x.tells(1, 0, 5), 1);
        x.set(3, 0, 0);
        Check.sheet(x, 1, 0, 0, 0);
        Check.due("0 .. 62", x.tells(1, 0, 4), 63);
        Check.due("0", x.tells(1, 0, 5), 0);
        Check.sheet(x, 1, 0, 99);
        Check.due("not by any", x.tells(1, 0, 4), 0);
        Check.due("not by any", x.tells(1, 0, 5), -1);
        Check.sheet(x, 1, 0);
        Check.due("all", x.tells(1, 0, 4), 100);
    }

    private static void tellsByAirAsItIs() {
        PuncturesAreViews x = heavyTwice(1);
        Check.sheet(x, 1, 0, 36);
        x.set(5, 0, 50);
        Check.due("KINDS by 50", x.tells(1, 0, 1), 0);
        Check.due("NUMBERS by 50", x.tells(1, 0, 2), 0);
        Check.due("PATCHES by 50", x.tells(1, 0, 3), 0);
        Check.due("TEXTS by 50", x.tells(1, 0, 6), 0);
        Check.due("THOUGHTS by 50", x.tells(1, 0, 11), 0);
        Check.due("AIRS by any", x.tells(1, 0, 4), 2);
        Check.due("AIR stays", x.told(0, 5), 50);
        Check.sheet(x, 1, 0, 37);
        Check.due("51 less 14", x.tells(1, 0, 11), 4);
    }

    private static void tellsTexts() {
        PuncturesAreViews x = heavyTwice(1);
        Check.read(x, "lets thought*7;holds 41;pumps 1;");
        Check.read(x, "lets thought*8;holds 40;pumps 1;");
        Check.read(x, "lets 63;holds 40;pumps 1;");
        Check.read(x, "lets thought*7;holds 40;pumps 0;");
        Check.sheet(x, 3, 1, 36);
        Check.due("but text 2", x.tells(3, 0, 6), 1 + 2 + 8 + 16);
        Check.sheet(x, 3, 1, 36, 0, 40);
        Check.due("but 1 and 2", x.tells(3, 0, 6), 1 + 8 + 16);
        Check.sheet(x, 3, 1, 36, 0, 40, 41);
        Check.due("text 0 alone", x.tells(3, 0, 6), 1);
        Check.due("the rule stays", x.count(5), 0);
        x.force(4);
        Check.due("text 0, as well", x.tells(3, 0, 6), 1);
        Check.due("but not by the rule", x.tells(3, 0, 0), 3);
        Check.due("the rule stays", x.count(5), 4);
    }

    private static void tellsOfSorts() {
        PuncturesAreViews x = heavyTwice(0);
        Check.sheet(x, 0, 0, 256 + 36, 65536);
        Check.due("bytes", x.tells(0, 0, 0), -1);
        Check.sheet(x, 0, 1, 65536 + 36, -65536);
        Check.due("shorts", x.tells(0, 0, 0), -1);
        Check.sheet(x, 0, 1, 256 + 36);
        Check.due("a short is more than a byte", x.tells(0, 0, 0), 0);
        Check.sheet(x, 0, 2, 36, 0);
        Check.due("ints", x.tells(0, 0, 0), -1);
        Check.sheet(x, 0, 2, 65536 + 36, 0);
        Check.due("an int is more than a short", x.tells(0, 0, 0), 0);
    }

    private static void refusesToTell() {
        PuncturesAreViews x = heavyTwice(1);
        for (int sheet : new int[] {-1, 4, MIN, MAX}) {
            Check.due("no such sheet", x.tells(sheet, 0, 0), -2);
        }
        Check.due("missing", x.tells(0, 0, 0), -11);
        for (int one : new int[] {-1, 1, MIN, MAX}) {
            Check.due("nobody, ahead of missing", x.tells(0, one, 0), -2);
        }
        for (int what : new int[] {-1, 7, 8, 9, 34, MIN, MAX}) {
            Check.due("no such what, ahead of missing", x.tells(0, 0, what), -2);
        }
        x.sheet(0, 0, 31);
        Check.due("31", x.tells(0, 0, 0), -2);
        x.sheet(0, 0, 30);
        Check.due("30", x.tells(0, 0, 0), 0);
    }

    private static void films() {
        PuncturesAreViews x = heavyTwice(1);
        x.sheet(2, 2, 40);
        Check.due("a film", x.film(2, 0, 5), 5);
        Check.due("bytes", x.riders(2, 0, 0, 0), 0);
        Check.due("five", x.cell(2, 5, 0), -12);
        Check.due("as it is", x.tells(2, 0, 0), -1);
        Check.due("one stays", x.told(0, 4), 0);
        Check.due("AIR stays", x.told(0, 5), 99);
        Check.due("PATCHES stay", x.told(0, 3), 1);
        Check.due("FLAT stays", x.told(0, 7), 0);
        Check.sheet(x, 1, 0, 36, 0, 40, 41, 42);
        for (int i = 0; i < 5; i++) {
            x.cell(2, i, i == 0 ? 36 : i == 1 ? 0 : 38 + i);
        }
        Check.due("as told", x.tells(2, 0, 0), -1);
        Check.due("none", x.film(2, 0, 0), 0);
        Check.due("none", x.cell(2, 0, 0), -12);
        Check.due("thirty", x.film(2, 0, 30), 30);
        Check.due("thirty", x.tells(2, 0, 0), -1);
        Check.due("a film anew", x.cell(2, 29, 0), 1);
        Check.due("otherwise", x.tells(2, 0, 0), 29);
        for (int[] bad : new int[][] {{4, 0, 0}, {-1, 0, 0}, {0, 1, 0}, {0, -1, 0}, {0, 0, -1}, {0, 0, 31}, {MAX, 0, 0},
            {0, MIN, 0}, {0, 0, MAX}, {0, 0, MIN}}) {
            Check.due("bad", x.film(bad[0], bad[1], bad[2]), -2);
        }
        Check.due("a bad film makes none", x.cell(0, 0, 0), -11);
    }

    /** What the thoughts drawn by a seed are, by longs. */
    private static void lay(PuncturesAreViews x, int seed) {
        long z = seed & 0xffffffffL;
        for (int place = 0; place < 24; place++) {
            z = (z * 1103515245L + 12345L) & 0xffffffffL;
            x.set(1, place, (int) ((z / 512) % 10));
        }
    }

    /** A DULL one, who is flat more or less often by what is drawn. */
    private static PuncturesAreViews dullOne() {
        PuncturesAreViews x = new PuncturesAreViews();
        Check.thoughts(x, "099");
        x.rider(2, 3, 9);
        return x;
    }

    private static void draws() {
        PuncturesAreViews x = dullOne();
        Check.due("nobody", x.drawn(0, 1), -2);
        Check.due("nobody", x.drawn(0, -1), -2);
        Check.due("nobody", x.drawn(0, MAX), -2);
        int unlike = 0;
        int first = x.drawn(0, 0);
        for (int seed : new int[] {0, 1, 2, 3, -1, -2, 77, 12345, MIN, MAX, 1 << 20, -99999}) {
            int drawn = x.drawn(seed, 0);
            Check.due("as it was", x.told(1, 1), 9);
            x.image();
            lay(x, seed);
            Check.due("drawn by " + seed, drawn, x.takes(0));
            x.back();
            unlike += drawn != first ? 1 : 0;
        }
        Check.holds("seeds are unlike", unlike > 3);
        Check.rule(x, "lets 99 ; holds 1 ; pumps 0 ;");
        Check.due("by the rule that is", x.drawn(1, 0), x.takes(0));
        Check.rule(x, "lets day * 99 ; holds 1 ; pumps 0 ;");
        Check.due("on the day that is", x.drawn(1, 0), 23);
        x.set(0, 0, 2);
        Check.due("on the day that is", x.drawn(1, 0), 32);
        Check.due("on the day that is", x.chance(1, 1, 0, 31, 0), 0);
    }

    private static void chances() {
        PuncturesAreViews x = dullOne();
        for (int seed : new int[] {0, 5, -10, MAX - 3, MIN}) {
            for (int m = 1; m <= 20; m++) {
                x = dullOne();
                for (int k = 26; k <= 31; k++) {
                    chance(x, seed, m, k);
                }
            }
        }
        Check.due("none", x.chance(3, 20, 0, 22, 0), 0);
        Check.due("none: 1", x.chance(3, 20, 0, 22, 1), 1);
        Check.due("all", x.chance(3, 20, 0, 240, 0), 1);
        Check.due("all: 1", x.chance(3, 20, 0, 240, 1), 1);
        Check.due("none takes 0", x.chance(3, 1, 0, 0, 0), 0);
        x.set(4, 0, 23);
        Check.due("home", x.chance(3, 7, 0, 0, 0), 1);
    }

    private static void chance(PuncturesAreViews x, int seed, int m, int k) {
        int good = 0;
        for (int i = 0; i < m; i++) {
            good += x.drawn(seed + i, 0) <= k ? 1 : 0;
        }
        int a = good;
        int b = m;
        while (b != 0) {
            int rest = a % b;
            a = b;
            b = rest;
        }
        Check.due("above, of " + m + " by " + k, x.chance(seed, m, 0, k, 0), good / a);
        Check.due("below, of " + m + " by " + k, x.chance(seed, m, 0, k, 1), m / a);
    }

    private static void refusesChances() {
        PuncturesAreViews x = heavyTwice(1);
        int[][] bad = {{0, 0, 0, 0}, {21, 0, 0, 0}, {-1, 0, 0, 0}, {1, 1, 0, 0}, {1, -1, 0, 0}, {1, 0, -1, 0}, {1, 0, 241, 0},
            {1, 0, 0, -1}, {1, 0, 0, 2}, {MAX, 0, 0, 0}, {MIN, 0, 0, 0}, {1, MIN, 0, 0}, {1, 0, MAX, 0}, {1, 0, 0, MAX}};
        for (int[] b : bad) {
            Check.due("NO", x.chance(7, b[0], b[1], b[2], b[3]), PuncturesAreViews.NO);
        }
    }

    private static void keepsImages() {
        PuncturesAreViews x = heavyTwice(1);
        Check.due("none", x.back(), -3);
        x.rider(2, 5, 6);
        Check.read(x, "lets 1;holds 1;pumps 1;");
        x.force(1);
        x.step(0);
        x.set(5, 0, 1);
        x.set(1, 2, 9);
        x.force(0);
        x.step(0);
        x.set(0, 0, 44);
        Check.due("flat", x.told(0, 7), 1);
        Check.due("two", x.image(), 2);
        x.set(0, 0, 45);
        x.set(1, 2, 3);
        x.set(1, 23, 3);
        x.set(2, 0, 9);
        x.set(3, 1, 9);
        x.set(4, 0, 0);
        x.set(5, 0, 7);
        x.step(0);
        x.set(5, 0, 1);
        x.set(1, 2, 9);
        x.step(0);
        Check.due("flat twice again", x.told(0, 7), 3);
        Check.due("one more", x.rider(5, 8, 8), 2);
        x.force(1);
        Check.read(x, "lets 2;holds 1;pumps 1;");
        x.feed(65);
        x.sheet(2, 1, 7);
        for (int i = 0; i < 2; i++) {
            Check.due("two", x.back(), 2);
            Check.due("riders", x.count(0), 2);
            Check.due("gone", x.told(2, 6), -2);
            Check.due("day", x.told(0, 0), 44);
            Check.due("thought", x.told(2, 1), 9);
            Check.due("thought", x.told(23, 1), 0);
            int[][] is = {{3, 1, 2, 0, 0, 1}, {5, 6, 0, 99, 2, 0}};
            for (int one = 0; one < 2; one++) {
                for (int what = 2; what < 8; what++) {
                    Check.due("rider " + one + " " + what, x.told(one, what), is[one][what - 2]);
                }
            }
            Check.due("the rule", x.count(5), 0);
            Check.due("texts stay", x.count(3), 3);
            Check.due("the tape stays", x.count(4), 1);
            Check.due("sheets stay", x.cell(2, 6, 1), 1);
            x.set(4, 0, 20);
            x.set(0, 0, 1);
            x.set(1, 2, 0);
            x.step(0);
            x.rider(1, 1, 1);
            x.force(2);
        }
    }

    private static void keepsTheLastImage() {
        PuncturesAreViews x = new PuncturesAreViews();
        Check.due("nobody", x.image(), 0);
        x.rider(1, 1, 1);
        x.set(1, 4, 5);
        Check.due("one", x.image(), 1);
        x.rider(2, 2, 2);
        Check.due("one", x.back(), 1);
        Check.due("thought", x.told(4, 1), 5);
        Check.due("the next one", x.rider(4, 2, 3), 1);
        Check.due("its kind", x.told(1, 6), 4);
        Check.due("its patches", x.told(1, 3), 3);
        x.set(5, 1, 1);
        x.set(1, 1, 9);
        x.day(1);
        Check.due("flat at 1", x.told(1, 4) + 10 * x.told(1, 7) + 100 * x.told(1, 5), 11);
        x.back();
        x.rider(0, 0, 0);
        Check.due("another is at 0", x.told(1, 4), 0);
        Check.due("with all air", x.told(1, 5), 99);
        Check.due("never flat yet", x.told(1, 7), 0);
        PuncturesAreViews y = new PuncturesAreViews();
        y.image();
        y.rider(1, 1, 1);
        Check.due("nobody", y.back(), 0);
        Check.due("nobody", y.count(0), 0);
    }

    private static void counts() {
        PuncturesAreViews x = new PuncturesAreViews();
        x.rider(0, 1, 4);
        x.rider(1, 1, 9);
        x.rider(2, 1, 0);
        x.set(4, 1, 23);
        x.set(4, 2, 22);
        Check.read(x, "lets 2;holds 1;pumps 1;");
        x.force(1);
        x.feed(32);
        x.feed(32);
        int[] is = {3, 1, 13, 2, 2, 1};
        for (int what = 0; what < 6; what++) {
            Check.due("count " + what, x.count(what), is[what]);
        }
        x.step(2);
        Check.due("two are home", x.count(1), 2);
        for (int what : new int[] {-1, 6, MIN, MAX}) {
            Check.due("bad", x.count(what), -2);
        }
    }
}
