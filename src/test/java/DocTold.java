/** What the document says of tyres that were told, and in promises 18 to 24. */
final class DocTold {
    private static final int MIN = Integer.MIN_VALUE, MAX = Integer.MAX_VALUE;
    private static final int DAY = 0, THOUGHT = 1, NUMBER = 2, PATCHES = 3, AT = 4, AIR = 5;
    private static final String[] RULES = {"lets thought*7;holds 40;pumps 1;", "lets thought*6;holds 40;pumps 1;",
        "lets thought*7;holds 39;pumps 1;", "lets thought*7;holds 40;pumps 0;", "lets thought*7;holds 40;pumps 1-0;"};

    private DocTold() {
    }

    static void says() {
        Doc.terms();
        told();
        toldFirst();
        toldByAir();
        drawn();
        chances();
        image();
        tells();
        film();
        drawnAnswers();
        chanceAnswers();
        imageAnswers();
        backAnswers();
        count();
    }

    /** One with all that can be supposed of it; the THOUGHT at place 9 is what is said. */
    private static PuncturesAreViews one(int kind, int number, int patches, int air, int thought, int rule) {
        PuncturesAreViews x = new PuncturesAreViews();
        Check.thoughts(x, "004500370400600000001000");
        x.set(THOUGHT, 9, thought);
        x.rider(kind, number, patches);
        x.set(AT, 0, 5);
        x.set(AIR, 0, air);
        for (int i = 1; i < RULES.length; i++) {
            Check.due("text", Check.read(x, RULES[i]), i);
        }
        x.force(rule);
        return x;
    }

    private static void film(PuncturesAreViews x, int[] tyre) {
        Check.due("sheet", x.sheet(0, 0, tyre.length), 1);
        for (int i = 0; i < tyre.length; i++) {
            Check.due("cell", x.cell(0, i, tyre[i]), 1);
        }
    }

    /** What AIR is behind 1, 2, .. of n STEPS. */
    private static int[] tyre(PuncturesAreViews x, int n) {
        int[] tyre = new int[n];
        for (int i = 0; i < n; i++) {
            tyre[i] = x.run(0, i + 1, 1);
        }
        return tyre;
    }

    /** By how many is all so, of those that are as x but for one thing: bits of which, or how many and the least. */
    private static void supposed(int kind, int patches, int air, int n) {
        int[] tyre = tyre(one(kind, 4, patches, air, 4, 0), n);
        int[] bits = new int[7];
        int airs = 0;
        int least = -1;
        for (int i = 0; i < 10; i++) {
            bits[1] |= i < 6 && so(tyre, i, 4, patches, air, 4, 0) ? 1 << i : 0;
            bits[2] |= so(tyre, kind, i, patches, air, 4, 0) ? 1 << i : 0;
            bits[3] |= so(tyre, kind, 4, i, air, 4, 0) ? 1 << i : 0;
            bits[4] |= so(tyre, kind, 4, patches, air, i, 0) ? 1 << i : 0;
            bits[6] |= i < RULES.length && so(tyre, kind, 4, patches, air, 4, i) ? 1 << i : 0;
        }
        for (int a = 99; a >= 0; a--) {
            if (so(tyre, kind, 4, patches, a, 4, 0)) {
                airs++;
                least = a;
            }
        }
        PuncturesAreViews x = one(kind, 4, patches, air, 4, 0);
        film(x, tyre);
        String who = " of a " + kind + " with " + patches + " by " + air + ", of " + n;
        Check.due("first" + who, x.tells(0, 0, 0), -1);
        Check.due("KINDS" + who, x.tells(0, 0, 1), bits[1]);
        Check.due("NUMBERS" + who, x.tells(0, 0, 2), bits[2]);
        Check.due("PATCHES" + who, x.tells(0, 0, 3), bits[3]);
        Check.due("AIRS" + who, x.tells(0, 0, 4), airs);
        Check.due("least" + who, x.tells(0, 0, 5), least);
        Check.due("TEXTS" + who, x.tells(0, 0, 6), bits[6]);
        Check.due("THOUGHTS" + who, x.tells(0, 0, 19), bits[4]);
    }

    private static boolean so(int[] tyre, int kind, int number, int patches, int air, int thought, int rule) {
        PuncturesAreViews x = one(kind, number, patches, air, thought, rule);
        for (int i = 0; i < tyre.length; i++) {
            if (x.run(0, i + 1, 1) != tyre[i]) {
                return false;
            }
        }
        return true;
    }

    private static void told() {
        Doc.says("TOLD: a SHEET tells AIR of one behind 1, 2, .. STEPS (30 at most): the first (from 0) that is otherwise; NONE; "
            + "KINDS (bits 0 .. 5), NUMBERS (bits 0 .. 9), PATCHES (bits 0 .. 9), AIRS one could have now (of 0 .. 99: how many, "
            + "the least), THOUGHTS at a PLACE (bits 0 .. 9), TEXTS (bits), were they THE RULE, by which all would be so.");
        for (int kind = 0; kind < 6; kind++) {
            for (int n : new int[] {0, 1, 2, 4, 6, 12, 30}) {
                supposed(kind, kind % 4, 60, n);
                supposed(kind, 2 - kind % 3, 0, n);
            }
        }
    }

    private static void toldFirst() {
        PuncturesAreViews x = one(0, 4, 1, 99, 4, 0);
        int[] tyre = tyre(x, 30);
        for (int i = 0; i < 30; i++) {
            film(x, tyre);
            x.cell(0, i, tyre[i] + 1);
            Check.due("the first that is otherwise", x.tells(0, 0, 0), i);
            x.cell(0, 29, -1);
            Check.due("the first that is otherwise", x.tells(0, 0, 0), i);
            Check.due("by no KIND", x.tells(0, 0, 1), 0);
            Check.due("by no AIR", x.tells(0, 0, 5), -1);
            x = one(0, 4, 1, 99, 4, 0);
        }
        Check.due("30", x.sheet(0, 0, 30), 1);
        Check.due("30", x.tells(0, 0, 0), 0);
        Check.due("31", x.sheet(0, 0, 31), 1);
        Check.due("31", x.tells(0, 0, 0), -2);
        // one who is HOME is told of for ever
        x.set(AT, 0, 23);
        x.set(AIR, 0, 0);
        x.sheet(0, 0, 30);
        Check.due("home", x.tells(0, 0, 0), -1);
        Check.due("home by all KINDS", x.tells(0, 0, 1), 63);
        Check.due("home by all NUMBERS", x.tells(0, 0, 2), 1023);
        Check.due("home by all PATCHES", x.tells(0, 0, 3), 1023);
        Check.due("home by one AIR", x.tells(0, 0, 4), 1);
        Check.due("home by AIR 0", x.tells(0, 0, 5), 0);
        Check.due("home by all TEXTS", x.tells(0, 0, 6), 31);
        for (int place = 0; place < 24; place++) {
            Check.due("home by all THOUGHTS", x.tells(0, 0, 10 + place), 1023);
        }
        x.set(AIR, 0, 99);
        x.cell(0, 29, 99);
        Check.due("home, otherwise", x.tells(0, 0, 0), 0);
        x.sheet(0, 0, 1);
        x.cell(0, 0, 99);
        Check.due("home by AIR 99", x.tells(0, 0, 5), 99);
        x.cell(0, 0, 100);
        Check.due("home by no AIR", x.tells(0, 0, 5), -1);
        Check.due("home by no AIR", x.tells(0, 0, 4), 0);
    }

    private static void toldByAir() {
        Doc.says("TOLD goes by AIR as it is now, unless AIR is asked for.");
        PuncturesAreViews x = one(0, 4, 1, 60, 4, 0);
        film(x, tyre(x, 3));
        x.set(AIR, 0, 61);
        // 61 with nothing that comes in is as 60 with 1
        int[] due = {0, 0, 0, 0, 1, 60, 1 << 3};
        for (int what = 0; what < 7; what++) {
            Check.due("by AIR 61, what " + what, x.tells(0, 0, what), due[what]);
        }
        Check.due("by AIR 61", x.tells(0, 0, 19), 0);
        Check.due("AIR stays", x.told(0, AIR), 61);
        x.set(AIR, 0, 60);
        Check.due("by AIR 60", x.tells(0, 0, 0), -1);
        Check.due("by AIR 60", x.tells(0, 0, 1) & 1, 1);
    }

    /** THOUGHTS that are drawn by a seed, told with longs. */
    private static void lay(PuncturesAreViews x, int seed) {
        long z = seed & 0xffffffffL;
        for (int place = 0; place < 24; place++) {
            z = z * 1103515245L + 12345L & 0xffffffffL;
            x.set(THOUGHT, place, (int) (z / 512 % 10));
        }
    }

    private static int takesBy(int seed, int kind) {
        PuncturesAreViews x = one(kind, 4, 9, 60, 4, 0);
        lay(x, seed);
        return x.takes(0);
    }

    private static void drawn() {
        Doc.says("DRAWN by a SEED: THOUGHTS of PLACES, in order, would be (z >>> 9) % 10, z being z * 1103515245 + 12345 (an int; "
            + "SEED at first) anew for each: what one TAKES.");
        for (int kind = 0; kind < 6; kind++) {
            PuncturesAreViews x = one(kind, 4, 9, 60, 4, 0);
            for (int seed : new int[] {0, 1, 2, 3, 4, 5, -1, -2, -3, 1000, MIN, MIN + 1, MAX, MAX - 1, 1 << 30, -77777, 31415926}) {
                Check.due("by " + seed + ", a " + kind, x.drawn(seed, 0), takesBy(seed, kind));
            }
            Check.due("a THOUGHT stays", x.told(9, THOUGHT), 4);
            Check.due("one stays", x.told(0, AT), 5);
        }
        // a THOUGHT at each place, by itself: flat where it is 9, with a patch each time
        for (int place = 1; place < 23; place++) {
            for (int seed : new int[] {5, -6, MAX}) {
                PuncturesAreViews x = new PuncturesAreViews();
                x.rider(0, 0, 9);
                Check.rule(x, "lets(at=" + place + ")*(thought+thought*9);holds 1;pumps 0;");
                PuncturesAreViews y = new PuncturesAreViews();
                lay(y, seed);
                for (int air = 1; air < 92; air += 10) {
                    x.set(AIR, 0, air);
                    Check.due("THOUGHT at " + place, x.drawn(seed, 0), y.told(place, THOUGHT) * 10 >= air ? 24 : 23);
                }
            }
        }
        PuncturesAreViews x = new PuncturesAreViews();
        x.rider(0, 0, 1);
        x.set(AIR, 0, 0);
        Check.rule(x, "lets(at=1)*9;holds thought+1;pumps 0;");
        for (int seed = 0; seed < 20; seed++) {
            PuncturesAreViews y = new PuncturesAreViews();
            lay(y, seed);
            Check.due("THOUGHT at 0, by " + seed, x.drawn(seed, 0), 24);
            x.set(PATCHES, 0, 2);
            Check.due("THOUGHT at 0, by " + seed, x.drawn(seed, 0), y.told(0, THOUGHT) < 9 ? 25 : 24);
            x.set(PATCHES, 0, 1);
        }
    }

    private static void chances() {
        Doc.says("IN m seeds (1 .. 20), SEED and each 1 more (an int): of these those by which that is k (0 .. 240) or fewer.");
        for (int seed : new int[] {0, 7, -10, MAX - 7, MAX, MIN}) {
            for (int m = 1; m <= 20; m++) {
                PuncturesAreViews x = one(0, 4, 9, 60, 4, 0);
                for (int k = 20; k < 28; k++) {
                    int good = 0;
                    for (int i = 0; i < m; i++) {
                        good += x.drawn(seed + i, 0) <= k ? 1 : 0;
                    }
                    terms(x, seed, m, k, good);
                    x = one(0, 4, 9, 60, 4, 0);
                }
                terms(x, seed, m, 0, 0);
                terms(x, seed, m, 17, 0);
                terms(x, seed, m, 240, m);
                x.set(AT, 0, 23);
                terms(x, seed, m, 0, m);
            }
        }
    }

    private static void terms(PuncturesAreViews x, int seed, int m, int k, int good) {
        int common = m;
        while (good % common != 0 || m % common != 0) {
            common--;
        }
        Check.due("above, of " + m + " by " + seed + " to " + k, x.chance(seed, m, 0, k, 0), good / common);
        Check.due("below, of " + m + " by " + seed + " to " + k, x.chance(seed, m, 0, k, 1), m / common);
    }

    private static void image() {
        Doc.says("AN IMAGE keeps THOUGHTS, DAY, NUMBERS, PATCHES, where all are AT, AIR, FLAT, THE RULE (RIDERS that came since go).");
        PuncturesAreViews x = one(0, 4, 5, 60, 4, 2);
        x.rider(4, 3, 2);
        x.set(DAY, 0, 17);
        x.day(3);
        PuncturesAreViews y = one(0, 4, 5, 60, 4, 2);
        y.rider(4, 3, 2);
        y.set(DAY, 0, 17);
        y.day(3);
        Check.due("two", x.image(), 2);
        x.feed('l');
        x.sheet(1, 2, 3);
        x.rider(3, 3, 3);
        x.force(1);
        for (int place = 0; place < 24; place++) {
            x.set(THOUGHT, place, 9);
        }
        x.set(NUMBER, 0, 9);
        x.set(PATCHES, 1, 9);
        x.set(AIR, 1, 1);
        x.day(9);
        Check.due("more flat", x.told(0, 7) > y.told(0, 7) ? 1 : 0, 1);
        Check.due("two", x.back(), 2);
        for (int what = 2; what <= 10; what++) {
            for (int i = 0; i < 2; i++) {
                Check.due("of " + i + " what " + what, x.told(i, what), y.told(i, what));
            }
            Check.due("gone", x.told(2, what), -2);
        }
        for (int place = 0; place < 24; place++) {
            Check.due("THOUGHT at " + place, x.told(place, THOUGHT), y.told(place, THOUGHT));
        }
        Check.due("DAY", x.told(0, DAY), 18);
        Check.due("THE RULE", x.count(5), 2);
        Check.due("THE TAPE is not kept", x.count(4), 1);
        Check.due("SHEETS are not kept", x.cell(1, 2, 0), 1);
        Check.due("a new one comes behind", x.rider(2, 2, 2), 2);
    }

    private static void tells() {
        Doc.promise(18);
        Doc.says("TOLD of one: the first that is otherwise (what 0; NONE), KINDS (1), NUMBERS (2), PATCHES (3), AIRS: how many "
            + "(4), the least (5; NONE), TEXTS (6), THOUGHTS at PLACE what less 10 (10 .. 33).");
        PuncturesAreViews x = new PuncturesAreViews();
        Check.thoughts(x, "009");
        x.rider(5, 0, 0);
        x.rider(0, 0, 1);
        film(x, new int[] {99, 36});
        int[] due = {-1, 1 + 2 + 8, 1023, 1023, 2, 98, 1};
        for (int what = 0; what < 7; what++) {
            Check.due("what " + what, x.tells(0, 1, what), due[what]);
        }
        for (int place = 0; place < 24; place++) {
            Check.due("THOUGHTS at " + place, x.tells(0, 1, 10 + place), place == 1 ? 1 : place == 2 ? 512 : 1023);
        }
        Check.due("of the THINKER", x.tells(0, 0, 0), 1);
        Doc.says("BAD: SHEET, one, what; -11; BAD: it tells more than 30.");
        for (int bad : new int[] {-1, 4, MIN, MAX}) {
            Check.due("no SHEET " + bad, x.tells(bad, 0, 0), -2);
        }
        for (int bad : new int[] {-1, 2, 5, MIN, MAX}) {
            Check.due("nobody " + bad, x.tells(0, bad, 0), -2);
            Check.due("nobody ahead of nothing", x.tells(1, bad, 0), -2);
        }
        for (int bad : new int[] {-1, 7, 8, 9, 34, MIN, MAX}) {
            Check.due("no what " + bad, x.tells(0, 0, bad), -2);
            Check.due("no what ahead of nothing", x.tells(1, 0, bad), -2);
        }
        for (int sort = 0; sort < 3; sort++) {
            Check.due("nothing", x.tells(1, 0, 0), -11);
            x.sheet(1, sort, 30);
            Check.due("30", x.tells(1, 0, 0), 0);
            x.sheet(1, sort, 31);
            Check.due("31", x.tells(1, 0, 0), -2);
            x.sheet(1, sort, 40);
            Check.due("40", x.tells(1, 0, 33), -2);
            x.sheet(1, -1, 0);
        }
    }

    private static void film() {
        Doc.promise(19);
        Doc.says("A SHEET truly becomes AIR of one behind 1, .., n STEPS (0 .. 30; bytes): n.");
        for (int n = 0; n <= 30; n++) {
            PuncturesAreViews x = one(1, 4, 2, 70, 4, 0);
            if (n % 2 == 0) {
                x.sheet(2, 2, 40);
            }
            Check.due("film", x.film(2, 0, n), n);
            Check.due("bytes", x.riders(2, 0, 0, 0), 0);
            Check.due("as many as told", x.copy(2, n, 2, n, 0), 0);
            Check.due("no more", x.cell(2, n, 0), -12);
            Check.due("so", x.tells(2, 0, 0), -1);
            int[] tyre = tyre(x, n);
            film(x, tyre);
            for (int i = 0; i < n; i++) {
                x.cell(0, i, tyre[i] + 1);
                x.copy(2, i, 0, i, 1);
            }
            Check.due("AIR of one", x.tells(0, 0, 0), -1);
            Check.due("in thought", x.told(0, AT), 5);
            Check.due("AIR stays", x.told(0, AIR), 70);
        }
        Doc.says("BAD.");
        PuncturesAreViews x = one(1, 4, 2, 70, 4, 0);
        x.sheet(1, 1, 3);
        for (int bad : new int[] {-1, 4, MIN, MAX}) {
            Check.due("no SHEET " + bad, x.film(bad, 0, 3), -2);
        }
        for (int bad : new int[] {-1, 1, 5, MIN, MAX}) {
            Check.due("nobody " + bad, x.film(1, bad, 3), -2);
        }
        for (int bad : new int[] {-1, 31, MIN, MAX}) {
            Check.due("n " + bad, x.film(1, 0, bad), -2);
            Check.due("n " + bad, x.film(0, 0, bad), -2);
        }
        Check.due("stays of shorts", x.riders(1, 1, 0, 0), 0);
        Check.due("stays missing", x.cell(0, 0, 0), -11);
    }

    private static void drawnAnswers() {
        Doc.promise(20);
        Doc.says("DRAWN.");
        PuncturesAreViews x = one(2, 4, 9, 60, 4, 0);
        x.rider(5, 0, 0);
        Check.due("one", x.drawn(77, 0), takesBy(77, 2));
        Check.due("the other", x.drawn(77, 1), 23);
        Doc.says("BAD: no such RIDER.");
        for (int bad : new int[] {-1, 2, 5, MIN, MAX}) {
            Check.due("nobody " + bad, x.drawn(77, bad), -2);
        }
        Check.due("nobody", new PuncturesAreViews().drawn(0, 0), -2);
    }

    private static void chanceAnswers() {
        Doc.promise(21);
        Doc.says("IN m seeds: part 0 above, 1 below the line, in lowest terms.");
        PuncturesAreViews x = one(0, 4, 9, 60, 4, 0);
        int good = 0;
        for (int i = 0; i < 12; i++) {
            good += x.drawn(i, 0) <= 24 ? 1 : 0;
        }
        terms(x, 0, 12, 24, good);
        terms(x, 0, 12, 3, 0);
        Check.due("0 of 12", x.chance(0, 12, 0, 3, 1), 1);
        terms(x, 0, 12, 240, 12);
        Check.due("12 of 12", x.chance(0, 12, 0, 240, 1), 1);
        Doc.says("NO: no such RIDER, m, k, part.");
        for (int bad : new int[] {-1, 1, 5, MIN, MAX}) {
            Check.due("nobody " + bad, x.chance(0, 1, bad, 24, 0), PuncturesAreViews.NO);
        }
        for (int bad : new int[] {-1, 0, 21, MIN, MAX}) {
            Check.due("m " + bad, x.chance(0, bad, 0, 24, 0), PuncturesAreViews.NO);
        }
        for (int bad : new int[] {-1, 241, MIN, MAX}) {
            Check.due("k " + bad, x.chance(0, 1, 0, bad, 0), PuncturesAreViews.NO);
        }
        for (int bad : new int[] {-1, 2, MIN, MAX}) {
            Check.due("part " + bad, x.chance(0, 1, 0, 24, bad), PuncturesAreViews.NO);
        }
    }

    private static void imageAnswers() {
        Doc.promise(22);
        Doc.says("AN IMAGE is kept: how many RIDERS.");
        PuncturesAreViews x = new PuncturesAreViews();
        for (int riders = 0; riders <= 5; riders++) {
            x.set(DAY, 0, riders);
            Check.due("how many", x.image(), riders);
            x.set(DAY, 0, 900);
            Check.due("the last IMAGE counts", x.back(), riders);
            Check.due("day", x.told(0, DAY), riders);
            x.rider(0, riders, 0);
        }
        Check.due("one stays", x.told(4, NUMBER), 4);
    }

    private static void backAnswers() {
        Doc.promise(23);
        Doc.says("All that it keeps is as in THE IMAGE: how many RIDERS.");
        PuncturesAreViews x = new PuncturesAreViews();
        x.rider(1, 2, 3);
        x.image();
        for (int times = 0; times < 3; times++) {
            x.set(THOUGHT, 4, 9);
            x.set(DAY, 0, 9);
            x.set(NUMBER, 0, 9);
            x.set(PATCHES, 0, 9);
            x.set(AT, 0, 9);
            x.set(AIR, 0, 9);
            Check.due("came", x.rider(4, 4, 4), 1);
            Check.due("back", x.back(), 1);
            int[] due = {0, 0, 2, 3, 0, 99, 1, 0};
            for (int what = 2; what < 8; what++) {
                Check.due("what " + what, x.told(0, what), due[what]);
            }
            Check.due("DAY", x.told(0, DAY), 0);
            Check.due("THOUGHT", x.told(4, THOUGHT), 0);
            Check.due("gone", x.told(1, 6), -2);
        }
        PuncturesAreViews y = new PuncturesAreViews();
        y.image();
        y.rider(0, 0, 0);
        Check.due("nobody", y.back(), 0);
        Check.due("nobody", y.count(0), 0);
        Doc.says("STATE: there is none.");
        PuncturesAreViews z = new PuncturesAreViews();
        Check.due("none", z.back(), -3);
        z.rider(0, 0, 0);
        z.set(AIR, 0, 5);
        Check.due("none", z.back(), -3);
        Check.due("one stays", z.count(0), 1);
        Check.due("AIR stays", z.told(0, AIR), 5);
    }

    private static void count() {
        Doc.promise(24);
        Doc.says("How many: 0 RIDERS, 1 HOME, 2 PATCHES of all, 3 TEXTS, 4 bytes of THE TAPE, 5 THE RULE.");
        PuncturesAreViews x = new PuncturesAreViews();
        int[] first = {0, 0, 0, 1, 0, 0};
        for (int what = 0; what < 6; what++) {
            Check.due("at first, what " + what, x.count(what), first[what]);
        }
        for (int i = 0; i < 5; i++) {
            x.rider(i, i, 9 - i);
            x.set(AT, i, 19 + i);
        }
        for (int i = 1; i < 6; i++) {
            Check.read(x, "lets 0;holds 1;pumps 1;");
        }
        x.force(3);
        for (int i = 0; i < 160; i++) {
            x.feed(i);
        }
        int[] most = {5, 1, 35, 6, 160, 3};
        for (int what = 0; what < 6; what++) {
            Check.due("then, what " + what, x.count(what), most[what]);
        }
        x.day(60);
        Check.due("all are HOME", x.count(1), 5);
        Doc.says("BAD.");
        for (int what : new int[] {-1, 6, MIN, MAX}) {
            Check.due("what " + what, x.count(what), -2);
        }
    }
}
