/** What the document says of steps, and in promises 8 to 11. */
final class DocSteps {
    private static final int MIN = Integer.MIN_VALUE, MAX = Integer.MAX_VALUE;
    private static final int DAY = 0, THOUGHT = 1, NUMBER = 2, PATCHES = 3, AT = 4, AIR = 5;
    private static final int[] NOBODY = {-1, 1, 5, MIN, MAX};

    private DocSteps() {
    }

    static void says() {
        Doc.terms();
        walks();
        patches();
        ridesOn();
        bounds();
        flats();
        rides();
        days();
        inThought();
        takes();
        details();
        step();
        day();
        run();
        takesAnswers();
    }

    /** One of a KIND, NUMBER 4, AT a PLACE, every PLACE's THOUGHT being the same. */
    private static PuncturesAreViews with(int kind, int patches, int at, int air, int thought) {
        PuncturesAreViews x = new PuncturesAreViews();
        for (int place = 0; place < 24; place++) {
            x.set(THOUGHT, place, thought);
        }
        x.rider(kind, 4, patches);
        x.set(AT, 0, at);
        x.set(AIR, 0, air);
        return x;
    }

    private static void is(PuncturesAreViews x, int at, int air, int patches, int flat) {
        Check.due("AT", x.told(0, AT), at);
        Check.due("AIR", x.told(0, AIR), air);
        Check.due("PATCHES", x.told(0, PATCHES), patches);
        Check.due("FLAT", x.told(0, 7), flat);
    }

    private static void walks() {
        Doc.says("A STEP of a RIDER (who isn't HOME; else nothing): with AIR 0 and no PATCHES, one walks: to the next PLACE, and "
            + "that is all.");
        for (int kind = 0; kind < 6; kind++) {
            PuncturesAreViews x = with(kind, 0, 0, 0, 9);
            for (int place = 1; place < 24; place++) {
                Check.due("walks, a " + kind, x.step(0), 0);
                is(x, place, 0, 0, 0);
            }
            PuncturesAreViews home = with(kind, 3, 23, 0, 9);
            home.day(60);
            is(home, 23, 0, 3, 0);
            home.set(AIR, 0, 50);
            home.day(1);
            is(home, 23, 50, 3, 0);
            Check.due("no step", home.step(0), -3);
            is(home, 23, 50, 3, 0);
            Check.due("nothing in thought", home.run(0, 60, 1), 50);
        }
    }

    private static void patches() {
        Doc.says("With AIR 0 and PATCHES, one PATCHES: AIR is what it HOLDS, PATCHES are 1 less (told ahead), and stays.");
        int[] holds = {40, 30, 40, 15, 45, 1};
        for (int kind = 0; kind < 6; kind++) {
            for (int patches = 1; patches < 10; patches++) {
                PuncturesAreViews x = with(kind, patches, 7, 0, 9);
                Check.due("patches, a " + kind, x.step(0), holds[kind]);
                is(x, 7, holds[kind], patches - 1, 0);
            }
        }
        PuncturesAreViews x = with(0, 9, 7, 0, 9);
        Check.rule(x, "lets 99;holds patches*10+air+1;pumps 99;");
        Check.due("told ahead", x.step(0), 91);
        PuncturesAreViews y = with(0, 1, 22, 0, 0);
        Check.due("the last patch", y.step(0), 40);
        Check.due("goes on", y.step(0), 41);
        is(y, 23, 41, 0, 0);
    }

    private static void ridesOn() {
        Doc.says("Else one goes on to the next PLACE; AIR is more by PUMPS (99 at most), then less by LETS (0 at least), both told "
            + "there with the AIR as it came; if it is 0 then, one was FLAT once more (999 at most).");
        PuncturesAreViews x = with(0, 2, 0, 60, 0);
        for (int place = 1; place < 24; place++) {
            Check.due("goes on", x.step(0), 60 + place);
            is(x, place, 60 + place, 2, 0);
        }
        PuncturesAreViews y = with(0, 2, 4, 20, 0);
        y.set(THOUGHT, 4, 9);
        y.set(THOUGHT, 5, 2);
        y.set(THOUGHT, 6, 9);
        Check.due("the THOUGHT there", y.step(0), 20 + 1 - 14);
        PuncturesAreViews z = with(0, 0, 4, 20, 0);
        Check.rule(z, "lets (air=20)*3+(at=5)*4;holds 1;pumps (air=20)*10+(at=5)*20;");
        Check.due("AIR as it came", z.step(0), 20 + 30 - 7);
        // 99 at most ahead of what is let out
        for (int air = 90; air < 100; air++) {
            PuncturesAreViews w = with(0, 0, 4, air, 1);
            Check.rule(w, "lets 10;holds 1;pumps 5;");
            Check.due("from " + air, w.step(0), Math.min(99, air + 5) - 10);
        }
    }

    private static void bounds() {
        for (int lets = 0; lets < 100; lets++) {
            PuncturesAreViews x = with(0, 5, 4, 50, 1);
            Check.rule(x, "lets " + lets + ";holds 1;pumps 9;");
            Check.due("less by " + lets, x.step(0), Math.max(0, 59 - lets));
            is(x, 5, Math.max(0, 59 - lets), 5, lets >= 59 ? 1 : 0);
        }
        PuncturesAreViews x = with(0, 0, 0, 1, 0);
        Check.rule(x, "lets 1;holds 1;pumps 0;");
        Check.due("1 less 1", x.step(0), 0);
        is(x, 1, 0, 0, 1);
    }

    private static void flats() {
        PuncturesAreViews x = with(0, 9, 0, 1, 0);
        Check.rule(x, "lets 99;holds 1;pumps 0;");
        for (int i = 1; i < 100; i++) {
            x.set(AT, 0, 0);
            x.set(AIR, 0, 1);
            x.set(PATCHES, 0, 9);
            x.day(19);
        }
        Check.due("ten a day", x.told(0, 7), 990);
        x.set(AT, 0, 0);
        x.set(AIR, 0, 1);
        x.set(PATCHES, 0, 9);
        x.day(17);
        Check.due("the most", x.told(0, 7), 999);
        Check.due("patches", x.step(0), 1);
        Check.due("flat", x.step(0), 0);
        Check.due("no more", x.told(0, 7), 999);
        x.set(AIR, 0, 1);
        Check.due("in these", x.run(0, 1, 3), 1);
    }

    private static void rides() {
        Doc.says("A RIDE: n STEPS.");
        for (int kind = 0; kind < 6; kind++) {
            PuncturesAreViews x = with(kind, 3, 0, 99, 5);
            for (int n = 0; n < 40; n++) {
                PuncturesAreViews y = with(kind, 3, 0, 99, 5);
                Check.due("AT behind " + n, y.run(0, n, 0), x.told(0, AT));
                Check.due("AIR behind " + n, y.run(0, n, 1), x.told(0, AIR));
                Check.due("PATCHES behind " + n, y.run(0, n, 2), x.told(0, PATCHES));
                Check.due("FLAT behind " + n, y.run(0, n, 3), x.told(0, 7));
                x.step(0);
            }
        }
    }

    private static void days() {
        Doc.says("A DAY, truly: each RIDER, by numbers, goes so many STEPS; then DAY is 1 more.");
        for (int n : new int[] {0, 1, 2, 59, 60}) {
            PuncturesAreViews x = new PuncturesAreViews();
            PuncturesAreViews y = new PuncturesAreViews();
            for (int i = 0; i < 5; i++) {
                x.rider(i, i + 2, 2 * i);
                y.rider(i, i + 2, 2 * i);
            }
            for (int place = 0; place < 24; place++) {
                x.set(THOUGHT, place, 3 + place % 7);
                y.set(THOUGHT, place, 3 + place % 7);
            }
            x.day(n);
            Check.due("day", x.told(0, DAY), 1);
            for (int i = 0; i < 5; i++) {
                Check.due("AT of " + i, x.told(i, AT), y.run(i, n, 0));
                Check.due("AIR of " + i, x.told(i, AIR), y.run(i, n, 1));
                Check.due("PATCHES of " + i, x.told(i, PATCHES), y.run(i, n, 2));
                Check.due("FLAT of " + i, x.told(i, 7), y.run(i, n, 3));
            }
        }
        PuncturesAreViews x = with(3, 0, 0, 50, 0);
        Check.rule(x, "lets 0;holds 1;pumps day + 1;");
        x.set(NUMBER, 0, 0);
        x.day(0);
        x.day(0);
        Check.due("two days", x.told(0, DAY), 2);
        x.set(AT, 0, 0);
        x.day(1);
        Check.due("3 by day 2, which is no more ahead of the steps", x.told(0, AIR), 53);
        x.day(1);
        Check.due("none by day 3", x.told(0, AIR), 53);
    }

    private static void inThought() {
        Doc.says("In thought: n STEPS (0 .. 60): where one is AT, AIR, PATCHES, how often one was FLAT in them, how often one "
            + "walked.");
        PuncturesAreViews x = with(0, 1, 10, 20, 2);
        // 7 at 11, flat at 12, a patch: 40, 27 at 13, 14 at 14, 1 at 15, flat at 16, walks
        int[][] due = {{10, 20, 1, 0, 0}, {11, 7, 1, 0, 0}, {12, 0, 1, 1, 0}, {12, 40, 0, 1, 0}, {13, 27, 0, 1, 0},
            {14, 14, 0, 1, 0}, {15, 1, 0, 1, 0}, {16, 0, 0, 2, 0}, {17, 0, 0, 2, 1}, {18, 0, 0, 2, 2}};
        for (int n = 0; n < due.length; n++) {
            for (int what = 0; what < 5; what++) {
                Check.due("n " + n + " what " + what, x.run(0, n, what), due[n][what]);
            }
        }
        int[] home = {23, 0, 0, 2, 7};
        for (int what = 0; what < 5; what++) {
            Check.due("home, what " + what, x.run(0, 14, what), home[what]);
            Check.due("n 60 what " + what, x.run(0, 60, what), home[what]);
            Check.due("n 61", x.run(0, 61, what), -2);
            Check.due("n -1", x.run(0, -1, what), -2);
        }
        is(x, 10, 20, 1, 0);
        // in them, not ahead of them
        x.day(2);
        is(x, 12, 0, 1, 1);
        Check.due("none in these", x.run(0, 3, 3), 0);
        Check.due("one in these", x.run(0, 5, 3), 1);
    }

    private static void takes() {
        Doc.says("TAKES: how many STEPS till one is HOME (0: is; all are, in 240).");
        for (int place = 0; place < 24; place++) {
            PuncturesAreViews x = with(0, 0, place, 99, 0);
            Check.due("from " + place, x.takes(0), 23 - place);
            x.set(AIR, 0, 0);
            Check.due("walking from " + place, x.takes(0), 23 - place);
            x.set(PATCHES, 0, 1);
            Check.due("with a patch from " + place, x.takes(0), place == 23 ? 0 : 24 - place);
        }
        PuncturesAreViews x = with(0, 9, 0, 0, 9);
        Check.rule(x, "lets 99;holds 1;pumps 0;");
        Check.due("the most", x.takes(0), 32);
        Check.due("all, in 240", x.chance(5, 20, 0, 240, 0), 1);
    }

    private static void details() {
        Doc.says("LETS and PUMPS are told of the PLACE one comes to.");
        PuncturesAreViews x = with(1, 0, 3, 50, 0);
        Check.rule(x, "lets thought*2;holds 1;pumps at;");
        x.set(THOUGHT, 3, 9);
        x.set(THOUGHT, 4, 5);
        Check.due("4 more, twice 10 less: 4 is a CURATE's of 4", x.step(0), 50 + 4 - 20);
        Check.due("5 more", x.step(0), 50 + 4 - 20 + 5);
        PuncturesAreViews z = with(4, 0, 3, 50, 9);
        z.set(THOUGHT, 4, 3);
        Check.due("a BOLD one at 3", z.step(0), 52);
        Check.due("a BOLD one at 9", z.step(0), 52 + 2 - 31);
        Doc.says("DAYS do not pass by STEPS: a DOUBTER's DAY is that of now, in thought, too.");
        PuncturesAreViews y = with(3, 0, 0, 10, 0);
        y.set(NUMBER, 0, 0);
        Check.due("1 by each step", y.run(0, 20, 1), 30);
        for (int i = 1; i <= 4; i++) {
            Check.due("1 by a step", y.step(0), 10 + i);
            Check.due("no day", y.told(0, DAY), 0);
        }
        y.set(DAY, 0, 7);
        Check.due("none on an odd day", y.run(0, 10, 1), 14);
        Check.due("none on an odd day", y.step(0), 14);
        Check.due("no day", y.told(0, DAY), 7);
    }

    private static void step() {
        Doc.promise(8);
        Doc.says("A STEP of a RIDER, truly: AIR.");
        PuncturesAreViews x = with(0, 1, 0, 99, 9);
        x.rider(5, 9, 0);
        int[] due = {36, 0, 40, 0, 0, 0};
        for (int i = 0; i < due.length; i++) {
            Check.due("step " + i, x.step(0), due[i]);
            Check.due("AIR", x.told(0, AIR), due[i]);
        }
        is(x, 5, 0, 0, 2);
        Check.due("the other stays", x.told(1, AT), 0);
        Doc.says("BAD; STATE: one is HOME.");
        for (int one : new int[] {-1, 2, 5, MIN, MAX}) {
            Check.due("nobody " + one, x.step(one), -2);
        }
        Check.due("nobody", new PuncturesAreViews().step(0), -2);
        x.set(AT, 0, 22);
        Check.due("home then", x.step(0), 0);
        Check.due("home", x.step(0), -3);
        is(x, 23, 0, 0, 2);
    }

    private static void day() {
        Doc.promise(9);
        Doc.says("A DAY of n (0 .. 60) STEPS, truly: how many are HOME.");
        PuncturesAreViews x = new PuncturesAreViews();
        Check.due("nobody", x.day(60), 0);
        for (int i = 0; i < 5; i++) {
            x.rider(5, 0, 0);
            x.set(AT, i, 18 + i);
        }
        int[] n = {0, 1, 0, 2, 1, 1};
        int[] home = {0, 1, 1, 3, 4, 5};
        for (int i = 0; i < n.length; i++) {
            Check.due("home", x.day(n[i]), home[i]);
            Check.due("home", x.count(1), home[i]);
            Check.due("day", x.told(0, DAY), i + 2);
        }
        Check.due("the most", x.day(60), 5);
        Doc.says("BAD; STATE: DAY is 999.");
        for (int bad : new int[] {-1, 61, MIN, MAX}) {
            Check.due("n " + bad, x.day(bad), -2);
        }
        Check.due("day", x.told(0, DAY), 8);
        x.set(AT, 0, 0);
        x.set(DAY, 0, 998);
        Check.due("the last", x.day(1), 4);
        Check.due("day", x.told(0, DAY), 999);
        Check.due("no day more", x.day(1), -3);
        Check.due("no day more", x.day(0), -3);
        Check.due("no day more", x.day(60), -3);
        Check.due("BAD ahead of STATE", x.day(61), -2);
        Check.due("stays", x.told(0, AT), 1);
        Check.due("day", x.told(0, DAY), 999);
    }

    private static void run() {
        Doc.promise(10);
        Doc.says("n STEPS: where one is AT (what 0), AIR (1), PATCHES (2), how often FLAT in them (3), how often one walked (4).");
        PuncturesAreViews x = with(0, 1, 0, 99, 9);
        int[] five = {4, 0, 0, 2, 1};
        for (int what = 0; what < 5; what++) {
            Check.due("what " + what, x.run(0, 5, what), five[what]);
        }
        is(x, 0, 99, 1, 0);
        Check.due("day", x.told(0, DAY), 0);
        Doc.says("BAD.");
        for (int one : NOBODY) {
            Check.due("nobody " + one, x.run(one, 0, 0), -2);
        }
        for (int n : new int[] {-1, 61, MIN, MAX}) {
            Check.due("n " + n, x.run(0, n, 0), -2);
        }
        for (int what : new int[] {-1, 5, MIN, MAX}) {
            Check.due("what " + what, x.run(0, 0, what), -2);
        }
    }

    private static void takesAnswers() {
        Doc.promise(11);
        Doc.says("TAKES.");
        PuncturesAreViews x = with(0, 1, 0, 99, 9);
        x.rider(0, 0, 0);
        x.set(AT, 1, 22);
        Check.due("one", x.takes(0), 24);
        Check.due("the other", x.takes(1), 1);
        is(x, 0, 99, 1, 0);
        Doc.says("BAD.");
        for (int one : new int[] {-1, 2, 5, MIN, MAX}) {
            Check.due("nobody " + one, x.takes(one), -2);
        }
        Check.due("nobody", new PuncturesAreViews().takes(0), -2);
    }
}
