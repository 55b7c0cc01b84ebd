/** Promises 8 to 11: step, day, run, takes. */
final class StepsTest {
    private static final int MAX = Integer.MAX_VALUE, MIN = Integer.MIN_VALUE;

    public static void main(String[] args) {
        steps();
        stepsByAirAsItCame();
        patchesTellAhead();
        refusesSteps();
        countsFlats();
        days();
        refusesDays();
        runs();
        takes();
        Check.end();
    }

    /** Thoughts 9 at places 1 and 2, and else none. */
    private static PuncturesAreViews heavyTwice() {
        PuncturesAreViews x = new PuncturesAreViews();
        Check.thoughts(x, "099");
        return x;
    }

    private static void is(PuncturesAreViews x, int one, int at, int air, int patches, int flat) {
        Check.due("AT", x.told(one, 4), at);
        Check.due("AIR", x.told(one, 5), air);
        Check.due("PATCHES", x.told(one, 3), patches);
        Check.due("FLAT", x.told(one, 7), flat);
    }

    private static void steps() {
        PuncturesAreViews x = heavyTwice();
        x.rider(0, 0, 1);
        // 99 is still the most when 1 is pumped in, 63 are let out then
        Check.due("to 1", x.step(0), 36);
        is(x, 0, 1, 36, 1, 0);
        Check.due("to 2", x.step(0), 0);
        is(x, 0, 2, 0, 1, 1);
        Check.due("patches", x.step(0), 40);
        is(x, 0, 2, 40, 0, 1);
        Check.due("to 3", x.step(0), 41);
        is(x, 0, 3, 41, 0, 1);
        x.set(5, 0, 0);
        x.set(1, 4, 9);
        Check.due("walks", x.step(0), 0);
        is(x, 0, 4, 0, 0, 1);
        x.set(4, 0, 22);
        Check.due("walks home", x.step(0), 0);
        is(x, 0, 23, 0, 0, 1);
        Check.due("is home", x.step(0), -3);
        is(x, 0, 23, 0, 0, 1);
    }

    private static void stepsByAirAsItCame() {
        PuncturesAreViews x = new PuncturesAreViews();
        x.rider(0, 0, 0);
        Check.rule(x, "lets (air = 50) * 20 + (at = 1) * 3 + thought; holds 1; pumps (air = 50) * 10 + (at = 1) * 5;");
        x.set(5, 0, 50);
        x.set(1, 0, 9);
        x.set(1, 1, 2);
        Check.due("both told there, by AIR ahead", x.step(0), 50 + 15 - 25);
        x.set(4, 0, 0);
        x.set(5, 0, 98);
        x.set(1, 1, 9);
        Check.due("bound ahead of what is let out", x.step(0), 99 - 12);
    }

    private static void patchesTellAhead() {
        PuncturesAreViews x = new PuncturesAreViews();
        x.rider(0, 7, 4);
        Check.rule(x, "lets 99; holds patches * 10 + thought + air + at; pumps 0;");
        x.set(1, 3, 5);
        x.set(1, 4, 9);
        x.set(4, 0, 3);
        x.set(5, 0, 0);
        Check.due("by PATCHES and AIR ahead", x.step(0), 48);
        is(x, 0, 3, 48, 3, 0);
        x.rider(5, 0, 9);
        x.set(5, 1, 0);
        Check.due("a THINKER's patch", x.step(1), 1);
    }

    private static void refusesSteps() {
        PuncturesAreViews x = new PuncturesAreViews();
        Check.due("nobody", x.step(0), -2);
        x.rider(0, 0, 0);
        for (int one : new int[] {1, -1, 5, MIN, MAX}) {
            Check.due("nobody " + one, x.step(one), -2);
        }
        is(x, 0, 0, 99, 0, 0);
    }

    private static void countsFlats() {
        PuncturesAreViews x = new PuncturesAreViews();
        x.rider(0, 0, 0);
        Check.rule(x, "lets 99; holds 1; pumps 0;");
        for (int i = 1; i <= 120; i++) {
            x.set(4, 0, 0);
            x.set(5, 0, 5);
            Check.due("flat", x.step(0), 0);
            Check.due("so often", x.told(0, 7), i);
        }
        PuncturesAreViews y = new PuncturesAreViews();
        y.rider(0, 0, 0);
        Check.rule(y, "lets 99; holds 1; pumps 0;");
        for (int i = 1; i <= 101; i++) {
            y.set(4, 0, 0);
            y.set(3, 0, 9);
            y.set(5, 0, 1);
            y.day(60);
            if (i % 20 == 0 || i > 98) {
                Check.due("ten times a day", y.told(0, 7), Math.min(999, 10 * i));
            }
        }
        y.set(4, 0, 0);
        y.set(3, 0, 9);
        y.set(5, 0, 1);
        Check.due("in these", y.run(0, 60, 3), 10);
    }

    private static void days() {
        PuncturesAreViews x = heavyTwice();
        x.rider(0, 0, 1);
        x.rider(5, 2, 0);
        x.rider(3, 0, 0);
        x.set(4, 2, 22);
        Check.due("one is home", x.day(3), 1);
        is(x, 0, 2, 40, 0, 1);
        is(x, 1, 3, 99, 0, 0);
        is(x, 2, 23, 99, 0, 0);
        Check.due("day", x.told(0, 0), 1);
        Check.due("no steps", x.day(0), 1);
        is(x, 0, 2, 40, 0, 1);
        Check.due("day", x.told(0, 0), 2);
        Check.due("all are home", x.day(60), 3);
        Check.due("day", x.told(0, 0), 3);
        is(x, 0, 23, 61, 0, 1);
        // a DOUBTER's pumps: the day is that of the steps, and is more behind them
        x.set(4, 2, 0);
        x.set(5, 2, 50);
        x.set(1, 1, 0);
        x.day(1);
        is(x, 2, 1, 50, 0, 0);
        x.set(4, 2, 0);
        x.day(1);
        is(x, 2, 1, 51, 0, 0);
    }

    private static void refusesDays() {
        PuncturesAreViews x = new PuncturesAreViews();
        x.rider(0, 0, 0);
        x.set(0, 0, 998);
        for (int n : new int[] {-1, 61, MIN, MAX}) {
            Check.due("no such n", x.day(n), -2);
        }
        Check.due("day", x.told(0, 0), 998);
        Check.due("the last", x.day(1), 0);
        Check.due("day", x.told(0, 0), 999);
        Check.due("no more", x.day(1), -3);
        Check.due("no more", x.day(0), -3);
        Check.due("bad ahead of state", x.day(61), -2);
        Check.due("nobody went on", x.told(0, 4), 1);
    }

    private static void run(PuncturesAreViews x, int n, int... want) {
        for (int what = 0; what < 5; what++) {
            Check.due("run " + n + " " + what, x.run(0, n, what), want[what]);
        }
    }

    private static void runs() {
        PuncturesAreViews x = heavyTwice();
        x.set(1, 10, 9);
        x.rider(0, 0, 1);
        run(x, 0, 0, 99, 1, 0, 0);
        run(x, 1, 1, 36, 1, 0, 0);
        run(x, 2, 2, 0, 1, 1, 0);
        run(x, 3, 2, 40, 0, 1, 0);
        run(x, 4, 3, 41, 0, 1, 0);
        run(x, 11, 10, 0, 0, 2, 0);
        run(x, 13, 12, 0, 0, 2, 2);
        run(x, 24, 23, 0, 0, 2, 13);
        run(x, 60, 23, 0, 0, 2, 13);
        is(x, 0, 0, 99, 1, 0);
        Check.due("day", x.told(0, 0), 0);
        x.day(2);
        run(x, 0, 2, 0, 1, 0, 0);
        run(x, 9, 10, 0, 0, 1, 0);
        for (int[] bad : new int[][] {{1, 0, 0}, {-1, 0, 0}, {0, -1, 0}, {0, 61, 0}, {0, 0, -1}, {0, 0, 5}, {0, MIN, 0},
            {0, MAX, 0}, {MAX, 0, 0}, {0, 0, MAX}}) {
            Check.due("bad", x.run(bad[0], bad[1], bad[2]), -2);
        }
    }

    private static void takes() {
        PuncturesAreViews x = heavyTwice();
        Check.due("nobody", x.takes(0), -2);
        x.rider(0, 0, 1);
        Check.due("with a patch", x.takes(0), 24);
        x.set(3, 0, 0);
        Check.due("walks", x.takes(0), 23);
        x.set(4, 0, 22);
        Check.due("one place", x.takes(0), 1);
        x.set(4, 0, 23);
        Check.due("home", x.takes(0), 0);
        Check.due("nobody", x.takes(1), -2);
        Check.due("nobody", x.takes(-1), -2);
        Check.due("nobody", x.takes(MAX), -2);
        x.set(4, 0, 0);
        x.set(3, 0, 9);
        Check.rule(x, "lets 99; holds 99; pumps 0;");
        Check.due("the most", x.takes(0), 32);
        Check.due("AT stays", x.told(0, 4), 0);
        Check.due("PATCHES stay", x.told(0, 3), 9);
    }
}
