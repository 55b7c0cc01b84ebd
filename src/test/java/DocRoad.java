/** What the document says of the road, of riders and their KINDS, and in promises 1 to 4. */
final class DocRoad {
    private static final int MIN = Integer.MIN_VALUE, MAX = Integer.MAX_VALUE;
    private static final int DAY = 0, THOUGHT = 1, NUMBER = 2, PATCHES = 3, AT = 4, AIR = 5, KIND = 6, FLAT = 7, LETS = 8,
        HOLDS = 9, PUMPS = 10;

    private DocRoad() {
    }

    static void says() {
        Doc.terms();
        places();
        days();
        riders();
        digits();
        asOneComes();
        home();
        constants();
        quotients();
        refusals();
        lets();
        holds();
        pumps();
        bounds();
        newObject();
        set();
        rider();
        told();
    }

    /** An object with one RIDER. */
    private static PuncturesAreViews with(int kind, int number, int patches) {
        PuncturesAreViews x = new PuncturesAreViews();
        Check.due("rider", x.rider(kind, number, patches), 0);
        return x;
    }

    private static void places() {
        Doc.says("PLACES 0 .. 23, at each a THOUGHT (0 .. 9: how heavy; 0 at first).");
        PuncturesAreViews x = new PuncturesAreViews();
        for (int place = 0; place < 24; place++) {
            Check.due("first " + place, x.told(place, THOUGHT), 0);
            Check.due("lightest " + place, x.set(THOUGHT, place, 0), 0);
            Check.due("heaviest " + place, x.set(THOUGHT, place, 9), 0);
            Check.due("too heavy " + place, x.set(THOUGHT, place, 10), -2);
            Check.due("too light " + place, x.set(THOUGHT, place, -1), -2);
            Check.due("told " + place, x.told(place, THOUGHT), 9);
        }
        Check.due("behind", x.set(THOUGHT, 24, 0), -2);
        Check.due("ahead", x.set(THOUGHT, -1, 0), -2);
        Check.due("behind", x.told(24, THOUGHT), -2);
        Check.due("ahead", x.told(-1, THOUGHT), -2);
    }

    private static void days() {
        Doc.says("DAY (0 .. 999; 0 at first).");
        PuncturesAreViews x = new PuncturesAreViews();
        Check.due("first", x.told(0, DAY), 0);
        Check.due("most", x.set(DAY, 0, 999), 0);
        Check.due("more", x.set(DAY, 0, 1000), -2);
        Check.due("most", x.told(0, DAY), 999);
        Check.due("least", x.set(DAY, 0, 0), 999);
        Check.due("less", x.set(DAY, 0, -1), -2);
        Check.due("least", x.told(0, DAY), 0);
    }

    private static void riders() {
        Doc.says("RIDERS (5 at most, numbered from 0)");
        PuncturesAreViews x = new PuncturesAreViews();
        for (int i = 0; i < 5; i++) {
            Check.due("nobody yet", x.told(i, KIND), -2);
            Check.due("rider", x.rider(i, 0, 0), i);
            Check.due("kind", x.told(i, KIND), i);
        }
        Check.due("sixth", x.rider(0, 0, 0), -4);
        Check.due("fifth alone", x.told(5, KIND), -2);
        Doc.says("have a KIND: 0 RIDER, 1 CURATE under RIDER, 2 DULL under RIDER, 3 DOUBTER under CURATE, 4 BOLD under DULL, "
            + "5 THINKER under RIDER;");
        String[] under = {"0", "10", "20", "310", "420", "50"};
        for (int kind = 0; kind < 6; kind++) {
            PuncturesAreViews y = with(kind, 7, 0);
            for (int k = 0; k < 6; k++) {
                Check.due("a " + kind + " as a " + k, y.taken(0, k), under[kind].indexOf('0' + k) < 0 ? -13 : 7);
            }
        }
        Check.due("a kind more", new PuncturesAreViews().rider(6, 0, 0), -2);
        Check.due("a kind less", new PuncturesAreViews().rider(-1, 0, 0), -2);
    }

    private static void digits() {
        Doc.says("a NUMBER (0 .. 9), PATCHES (0 .. 9),");
        PuncturesAreViews x = with(0, 0, 9);
        Check.due("number 9", x.rider(0, 9, 0), 1);
        for (int what = NUMBER; what <= PATCHES; what++) {
            Check.due("first", x.told(0, what), what == NUMBER ? 0 : 9);
            Check.due("most", x.set(what, 0, 9), what == NUMBER ? 0 : 9);
            Check.due("more", x.set(what, 0, 10), -2);
            Check.due("most", x.told(0, what), 9);
            Check.due("least", x.set(what, 0, 0), 9);
            Check.due("less", x.set(what, 0, -1), -2);
            Check.due("least", x.told(0, what), 0);
        }
        Check.due("number 10", x.rider(0, 10, 0), -2);
        Check.due("number -1", x.rider(0, -1, 0), -2);
        Check.due("patches 10", x.rider(0, 0, 10), -2);
        Check.due("patches -1", x.rider(0, 0, -1), -2);
    }

    private static void asOneComes() {
        Doc.says("are AT a PLACE (0 as one comes), have AIR (0 .. 99; 99 as one comes), were FLAT so often (0 .. 999; 0).");
        for (int kind = 0; kind < 6; kind++) {
            PuncturesAreViews x = with(kind, 3, 3);
            Check.due("at", x.told(0, AT), 0);
            Check.due("air", x.told(0, AIR), 99);
            Check.due("flat", x.told(0, FLAT), 0);
        }
        PuncturesAreViews x = with(0, 0, 0);
        Check.due("last place", x.set(AT, 0, 23), 0);
        Check.due("behind", x.set(AT, 0, 24), -2);
        Check.due("first place", x.set(AT, 0, 0), 23);
        Check.due("ahead", x.set(AT, 0, -1), -2);
        Check.due("most air", x.set(AIR, 0, 99), 99);
        Check.due("more air", x.set(AIR, 0, 100), -2);
        Check.due("no air", x.set(AIR, 0, 0), 99);
        Check.due("less air", x.set(AIR, 0, -1), -2);
        Check.due("at", x.told(0, AT), 0);
        Check.due("air", x.told(0, AIR), 0);
    }

    private static void home() {
        Doc.says("HOME: AT 23.");
        PuncturesAreViews x = with(0, 0, 0);
        x.set(AT, 0, 22);
        Check.due("not yet", x.count(1), 0);
        Check.due("one step", x.takes(0), 1);
        x.set(AT, 0, 23);
        Check.due("home", x.count(1), 1);
        Check.due("no step", x.takes(0), 0);
    }

    private static void constants() {
        Doc.says("NONE is -1; NO, where a long is answered, -4611686018427387904.");
        Check.due("NONE", PuncturesAreViews.NONE, -1);
        Check.due("NO", PuncturesAreViews.NO, -4611686018427387904L);
        Check.due("none", new PuncturesAreViews().all(0), -1);
        Check.due("no", new PuncturesAreViews().chance(0, 1, 0, 0, 0), -4611686018427387904L);
    }

    private static void quotients() {
        Doc.says("Quotients are cut toward 0.");
        for (int v = 0; v < 99; v++) {
            PuncturesAreViews x = with(2, 0, 0);
            Check.rule(x, "lets " + v + ";holds " + v + ";pumps 0;");
            Check.due("half of " + v, x.told(0, LETS), v - (v + 1) / 2);
            x.rider(3, 0, 0);
            int held = v - 10 > 0 ? v - 10 - (v - 9) / 2 : 0;
            Check.due("half of 10 less than " + v, x.told(1, HOLDS), Math.max(1, held));
        }
    }

    private static void refusals() {
        Doc.says("Refusals, the first that the call's words name; they change nothing: BAD (-2: a number is none such or not as "
            + "told), STATE (-3), FULL (-4); the host's: -11 nothing where something is asked, -12 a place outside, -13 a thing "
            + "of another sort or KIND, -14 a size below 0.");
        // RefusalsTest looks at each of them, at their order, and at what they leave
        PuncturesAreViews x = with(0, 0, 0);
        Check.due("BAD", PuncturesAreViews.BAD, -2);
        Check.due("STATE", PuncturesAreViews.STATE, -3);
        Check.due("FULL", PuncturesAreViews.FULL, -4);
        Check.due("none such", x.takes(1), -2);
        Check.due("state", x.back(), -3);
        x.sheet(0, 0, 1);
        Check.due("nothing", x.cell(1, 0, 0), -11);
        Check.due("outside", x.cell(0, 1, 0), -12);
        Check.due("another sort", x.riders(0, 1, 0, 0), -13);
        Check.due("another KIND", x.taken(0, 1), -13);
        Check.due("below 0", x.sheet(0, 0, -1), -14);
        for (int i = 1; i < 5; i++) {
            x.rider(0, 0, 0);
        }
        Check.due("full", x.rider(0, 0, 0), -4);
    }

    /** LETS, HOLDS or PUMPS of one, by a rule that tells v of all three. */
    private static int by(int v, int kind, int number, int place, int thought, int what) {
        PuncturesAreViews x = with(kind, number, 3);
        Check.rule(x, "lets " + v + ";holds " + v + ";pumps " + v + ";");
        x.set(AT, 0, place);
        x.set(THOUGHT, place, thought);
        return x.told(0, what);
    }

    private static void lets() {
        Doc.says("LETS (out, at a THOUGHT t, lets telling v): RIDER: v;");
        for (int v : new int[] {0, 1, 50, 98, 99}) {
            Check.due("RIDER", by(v, 0, 3, 3, 5, LETS), v);
        }
        Doc.says("CURATE: twice a RIDER's, if PLACE modulo 5 is NUMBER modulo 5, else as a RIDER; DULL: half (cut) of a RIDER's;");
        for (int number = 0; number < 10; number++) {
            PuncturesAreViews x = with(1, number, 0);
            Check.rule(x, "lets 30;holds 1;pumps 1;");
            for (int place = 0; place < 24; place++) {
                x.set(AT, 0, place);
                Check.due(number + " at " + place, x.told(0, LETS), (place - number) % 5 == 0 ? 60 : 30);
            }
        }
        Check.due("half", by(30, 2, 3, 3, 5, LETS), 15);
        Check.due("half, cut", by(31, 2, 3, 3, 5, LETS), 15);
        Check.due("half of 1", by(1, 2, 3, 3, 5, LETS), 0);
        Doc.says("DOUBTER: NUMBER more than a CURATE;");
        for (int number = 0; number < 10; number++) {
            Check.due("twice and " + number, by(30, 3, number, number, 5, LETS), 60 + number);
            Check.due("once and " + number, by(30, 3, number, number + 1, 5, LETS), 30 + number);
            Check.due("no air and " + number, by(0, 3, number, number, 5, LETS), number);
        }
        Doc.says("BOLD: 0, if t is below 4, else as a DULL; THINKER: 0.");
        for (int t = 0; t < 10; t++) {
            Check.due("BOLD at " + t, by(81, 4, 3, 3, t, LETS), t < 4 ? 0 : 40);
            Check.due("THINKER at " + t, by(81, 5, 3, 3, t, LETS), 0);
        }
    }

    private static void holds() {
        Doc.says("HOLDS (AIR behind a PATCH, holds telling v): RIDER: v; CURATE: 10 less than a RIDER; DULL: as a RIDER; DOUBTER: "
            + "half (cut) of a CURATE's; BOLD: 5 more than a DULL; THINKER: 1.");
        int[] of40 = {40, 30, 40, 15, 45, 1};
        int[] of41 = {41, 31, 41, 15, 46, 1};
        for (int kind = 0; kind < 6; kind++) {
            Check.due("by 40, a " + kind, by(40, kind, 9, 4, 9, HOLDS), of40[kind]);
            Check.due("by 41, a " + kind, by(41, kind, 9, 4, 9, HOLDS), of41[kind]);
            PuncturesAreViews x = with(kind, 9, 1);
            x.set(AIR, 0, 0);
            Check.due("behind a patch, a " + kind, x.step(0), of40[kind]);
        }
    }

    private static void pumps() {
        Doc.says("PUMPS (comes in, pumps telling v): RIDER: v; CURATE: as a RIDER; DULL: 1 more than a RIDER; DOUBTER: 0, if DAY "
            + "is odd, else as a CURATE; BOLD: as a DULL; THINKER: NUMBER.");
        int[] of20 = {20, 20, 21, 20, 21, 8};
        for (int kind = 0; kind < 6; kind++) {
            PuncturesAreViews x = with(kind, 8, 0);
            Check.rule(x, "lets 0;holds 1;pumps 20;");
            for (int day : new int[] {0, 1, 2, 3, 500, 997, 998, 999}) {
                x.set(DAY, 0, day);
                Check.due("on day " + day + ", a " + kind, x.told(0, PUMPS), kind == 3 && day % 2 == 1 ? 0 : of20[kind]);
            }
            x.set(DAY, 0, 0);
            x.set(AIR, 0, 10);
            Check.due("comes in, a " + kind, x.step(0), 10 + of20[kind] - (kind == 3 ? 8 : 0));
        }
        for (int number = 0; number < 10; number++) {
            Check.due("THINKER of " + number, by(50, 5, number, 0, 0, PUMPS), number);
        }
    }

    private static void bounds() {
        Doc.says("(LETS, PUMPS 0 .. 99, HOLDS 1 .. 99, else the bound: laid once, on what comes out for the one's own KIND; what "
            + "it is told by, a DULL's for a BOLD, has none.)");
        Check.due("CURATE, 98", by(49, 1, 3, 3, 5, LETS), 98);
        Check.due("CURATE, no 100", by(50, 1, 3, 3, 5, LETS), 99);
        Check.due("DOUBTER, 99", by(45, 3, 9, 4, 5, LETS), 99);
        Check.due("DOUBTER, no 101", by(46, 3, 9, 4, 5, LETS), 99);
        Check.due("DOUBTER, far over", by(99, 3, 9, 4, 5, LETS), 99);
        Check.due("RIDER, 1", by(1, 0, 3, 3, 5, HOLDS), 1);
        Check.due("RIDER, no 0", by(0, 0, 3, 3, 5, HOLDS), 1);
        Check.due("RIDER, 99", by(99, 0, 3, 3, 5, HOLDS), 99);
        Check.due("CURATE, 1", by(11, 1, 3, 3, 5, HOLDS), 1);
        Check.due("CURATE, no 0", by(10, 1, 3, 3, 5, HOLDS), 1);
        Check.due("CURATE, far below", by(0, 1, 3, 3, 5, HOLDS), 1);
        Check.due("DULL, no 0", by(0, 2, 3, 3, 5, HOLDS), 1);
        Check.due("DOUBTER, 1", by(12, 3, 3, 3, 5, HOLDS), 1);
        Check.due("DOUBTER, no 0", by(11, 3, 3, 3, 5, HOLDS), 1);
        Check.due("DOUBTER, far below", by(0, 3, 3, 3, 5, HOLDS), 1);
        Check.due("BOLD, by a DULL's 0, which is no 1", by(0, 4, 3, 3, 5, HOLDS), 5);
        Check.due("BOLD, 99", by(94, 4, 3, 3, 5, HOLDS), 99);
        Check.due("BOLD, no 100", by(95, 4, 3, 3, 5, HOLDS), 99);
        Check.due("DULL, 99", by(98, 2, 3, 3, 5, PUMPS), 99);
        Check.due("DULL, no 100", by(99, 2, 3, 3, 5, PUMPS), 99);
        Check.due("BOLD, no 100", by(99, 4, 3, 3, 5, PUMPS), 99);
        Check.due("BOLD, half of 99", by(99, 4, 3, 3, 5, LETS), 49);
    }

    private static void newObject() {
        Doc.promise(1);
        Doc.says("No RIDERS, no THOUGHTS.");
        PuncturesAreViews x = new PuncturesAreViews();
        Check.due("riders", x.count(0), 0);
        Check.due("no rider 0", x.told(0, KIND), -2);
        for (int place = 0; place < 24; place++) {
            Check.due("thought at " + place, x.told(place, THOUGHT), 0);
        }
        x.set(THOUGHT, 3, 3);
        x.rider(0, 0, 0);
        PuncturesAreViews y = new PuncturesAreViews();
        Check.due("another object's riders", y.count(0), 0);
        Check.due("another object's thoughts", y.told(3, THOUGHT), 0);
    }

    private static void set() {
        Doc.promise(2);
        Doc.says("DAY (what 0; of does not matter), the THOUGHT at a PLACE (1), NUMBER (2), PATCHES (3), where one is AT (4), AIR "
            + "(5) of a RIDER becomes v: what it was.");
        PuncturesAreViews x = with(0, 1, 2);
        x.rider(0, 3, 4);
        int day = 0;
        for (int of : new int[] {0, 1, 2, 23, 24, -1, MIN, MAX}) {
            Check.due("day, of " + of, x.set(DAY, of, day + 100), day);
            day += 100;
        }
        int[] was = {0, 3, 4, 0, 99};
        int[] others = {0, 1, 2, 0, 99};
        for (int what = THOUGHT; what <= AIR; what++) {
            Check.due("was " + what, x.set(what, 1, 7), was[what - 1]);
            Check.due("was then " + what, x.set(what, 1, 8), 7);
            Check.due("is " + what, x.told(1, what), 8);
            Check.due("the other's " + what, x.told(0, what), others[what - 1]);
        }
        Check.due("the day", x.told(0, DAY), 800);
        Doc.says("BAD.");
        for (int what : new int[] {-1, 6, 7, 10, MIN, MAX}) {
            Check.due("what " + what, x.set(what, 0, 0), -2);
        }
        for (int what = NUMBER; what <= AIR; what++) {
            for (int of : new int[] {-1, 2, 5, MIN, MAX}) {
                Check.due("of " + of, x.set(what, of, 0), -2);
            }
        }
        int[] most = {999, 9, 9, 9, 23, 99};
        for (int what = DAY; what <= AIR; what++) {
            for (int v : new int[] {-1, most[what] + 1, MIN, MAX}) {
                Check.due("v " + v, x.set(what, 0, v), -2);
            }
        }
        for (int place : new int[] {-1, 24, MIN, MAX}) {
            Check.due("place " + place, x.set(THOUGHT, place, 0), -2);
        }
    }

    private static void rider() {
        Doc.promise(3);
        Doc.says("A RIDER: the number.");
        PuncturesAreViews x = new PuncturesAreViews();
        for (int i = 0; i < 5; i++) {
            Check.due("number", x.rider(5 - i, i, 9 - i), i);
            Check.due("kind", x.told(i, KIND), 5 - i);
            Check.due("NUMBER", x.told(i, NUMBER), i);
            Check.due("PATCHES", x.told(i, PATCHES), 9 - i);
        }
        Doc.says("BAD; FULL.");
        PuncturesAreViews y = new PuncturesAreViews();
        for (int v : new int[] {-1, 10, MIN, MAX}) {
            Check.due("KIND " + v, y.rider(v, 0, 0), -2);
            Check.due("NUMBER " + v, y.rider(0, v, 0), -2);
            Check.due("PATCHES " + v, y.rider(0, 0, v), -2);
            Check.due("BAD ahead of FULL", x.rider(0, 0, v), -2);
        }
        Check.due("KIND 6", y.rider(6, 0, 0), -2);
        Check.due("nobody came", y.count(0), 0);
        Check.due("full", x.rider(0, 0, 0), -4);
        Check.due("five", x.count(0), 5);
    }

    private static void told() {
        Doc.promise(4);
        Doc.says("What 0 .. 5 as of set(), 6 KIND, 7 how often FLAT, 8 LETS, 9 HOLDS, 10 PUMPS as one is.");
        PuncturesAreViews x = with(5, 0, 0);
        x.rider(4, 6, 8);
        x.set(DAY, 0, 321);
        x.set(THOUGHT, 9, 5);
        x.set(AT, 1, 8);
        x.set(AIR, 1, 1);
        Check.due("steps", x.step(1), 0);
        int[] due = {321, 0, 6, 8, 9, 0, 4, 1, 17, 45, 2};
        for (int what = DAY; what <= PUMPS; what++) {
            Check.due("what " + what, x.told(1, what), due[what]);
        }
        Check.due("a thought", x.told(9, THOUGHT), 5);
        Check.due("day of nobody", x.told(MIN, DAY), 321);
        Check.rule(x, "lets air + at; holds 50 - air - at; pumps patches + day - 300;");
        x.set(AIR, 1, 30);
        Check.due("LETS as one is", x.told(1, LETS), 19);
        Check.due("HOLDS as one is", x.told(1, HOLDS), 16);
        Check.due("PUMPS as one is", x.told(1, PUMPS), 30);
        Doc.says("BAD.");
        for (int what : new int[] {-1, 11, MIN, MAX}) {
            Check.due("what " + what, x.told(0, what), -2);
        }
        for (int of : new int[] {-1, 2, 5, 24, MIN, MAX}) {
            for (int what = NUMBER; what <= PUMPS; what++) {
                Check.due("of " + of + " what " + what, x.told(of, what), -2);
            }
        }
        for (int place : new int[] {-1, 24, MIN, MAX}) {
            Check.due("place " + place, x.told(place, THOUGHT), -2);
        }
    }
}
