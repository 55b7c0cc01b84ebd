/** What the document says of what would be best, and in promises 12 to 17. */
final class DocBest {
    private static final int MIN = Integer.MIN_VALUE, MAX = Integer.MAX_VALUE;
    private static final int THOUGHT = 1, PATCHES = 3, AT = 4, AIR = 5;
    private static final int[] NOBODY = {-1, 1, 5, MIN, MAX};

    /** Roads on which it is not plain what would be best. */
    private static final String[] ROADS = {"099900990090909090990909", "531946180725083617925460", "999999999999999999999999",
        "123456789123456789123456", "000000000000000000000000", "700700700700700700700700", "045604560456045604560456"};

    private DocBest() {
    }

    static void says() {
        Doc.terms();
        fewest();
        ease();
        easeEdges();
        change();
        changeEdges();
        bears();
        first();
        worst();
        spread();
        spreadEdges();
        fewestAnswers();
        easeAnswers();
        changeAnswers();
        bearsAnswers();
        allAnswers();
        spreadAnswers();
    }

    private static PuncturesAreViews road(String thoughts) {
        PuncturesAreViews x = new PuncturesAreViews();
        Check.thoughts(x, thoughts);
        return x;
    }

    private static PuncturesAreViews with(String thoughts, int kind, int patches) {
        PuncturesAreViews x = road(thoughts);
        x.rider(kind, 4, patches);
        return x;
    }

    private static void fewest() {
        Doc.says("FEWEST: the least PATCHES (0 .. 9) by which one never walks till one is HOME; NONE.");
        for (String road : ROADS) {
            for (int kind = 0; kind < 6; kind++) {
                PuncturesAreViews x = with(road, kind, 3);
                int least = -1;
                for (int patches = 9; patches >= 0; patches--) {
                    x.set(PATCHES, 0, patches);
                    least = x.run(0, 60, 4) == 0 ? patches : least;
                }
                Check.due("on " + road + ", a " + kind, x.fewest(0), least);
                Check.due("PATCHES stay", x.told(0, PATCHES), 0);
            }
        }
        PuncturesAreViews x = with("", 0, 0);
        Check.rule(x, "lets 99;holds 1;pumps 0;");
        Check.due("not by 9", x.fewest(0), -1);
        for (int place = 23; place >= 13; place--) {
            x.set(AT, 0, place);
            Check.due("flat at all but the last, from " + place, x.fewest(0), Math.max(0, 22 - place));
        }
        x.set(AT, 0, 12);
        Check.due("not by 9, by 10", x.fewest(0), -1);
        x.set(AT, 0, 22);
        Check.due("flat at home", x.fewest(0), 0);
        x.set(AIR, 0, 0);
        Check.due("flat now", x.fewest(0), 1);
        x.set(AT, 0, 23);
        Check.due("home, flat", x.fewest(0), 0);
        // more patches may be worse: the least counts
        PuncturesAreViews y = with("", 0, 9);
        Check.rule(y, "lets (0 < patches)*99;holds 1;pumps 0;");
        Check.due("none", y.fewest(0), 0);
    }

    private static void ease() {
        Doc.says("EASE (one): the PLACE without whose THOUGHT (were it 0) one TAKES fewest STEPS, if fewer; of like ones the "
            + "first; NONE.");
        for (String road : ROADS) {
            for (int kind = 0; kind < 6; kind++) {
                PuncturesAreViews x = with(road, kind, 6);
                int best = -1;
                int least = x.takes(0);
                for (int place = 0; place < 24; place++) {
                    int was = x.set(THOUGHT, place, 0);
                    if (x.takes(0) < least) {
                        least = x.takes(0);
                        best = place;
                    }
                    x.set(THOUGHT, place, was);
                }
                Check.due("on " + road + ", a " + kind, x.ease(0, 0), best);
                Check.due("on " + road + ", a " + kind + ": takes", x.ease(0, 1), least);
            }
        }
    }

    private static void easeEdges() {
        // flat at 22, and nowhere else
        PuncturesAreViews x = with("000000000000000000000099", 0, 1);
        x.set(AT, 0, 21);
        x.set(AIR, 0, 5);
        Check.due("22", x.ease(0, 0), 22);
        Check.due("takes", x.ease(0, 1), 2);
        x.set(AT, 0, 22);
        Check.due("flat at home alone", x.ease(0, 0), -1);
        Check.due("takes", x.ease(0, 1), 1);
        // only 0 itself eases, no lighter THOUGHT than that
        PuncturesAreViews y = with("333333333333333333333333", 0, 1);
        Check.rule(y, "lets (at = 9)*(99 - (thought = 0)*99);holds 99;pumps 0;");
        Check.due("9", y.ease(0, 0), 9);
        Check.due("takes", y.ease(0, 1), 23);
        Check.due("the THOUGHT stays", y.told(9, THOUGHT), 3);
        // either of two; and where one is
        PuncturesAreViews z = with("011", 0, 2);
        Check.rule(z, "lets thought*50;holds 99;pumps 0;");
        Check.due("the first of 1, 2", z.ease(0, 0), 1);
        PuncturesAreViews w = with("5", 0, 2);
        Check.rule(w, "lets (at = 1)*20;holds 50 - thought*9;pumps 0;");
        w.set(AIR, 0, 0);
        Check.due("0, where one is", w.ease(0, 0), 0);
    }

    private static void change() {
        Doc.says("CHANGE (one): 100 times the one PLACE, and the other (the lesser first), by whose changing THOUGHTS one TAKES "
            + "fewest, if fewer; of like ones the first; NONE.");
        for (String road : ROADS) {
            for (int kind = 0; kind < 4; kind++) {
                int best = -1;
                int least = with(road, kind, 6).takes(0);
                for (int i = 0; i < 23; i++) {
                    PuncturesAreViews x = with(road, kind, 6);
                    for (int j = i + 1; j < 24; j++) {
                        int a = x.told(i, THOUGHT);
                        int b = x.set(THOUGHT, j, a);
                        x.set(THOUGHT, i, b);
                        if (x.takes(0) < least) {
                            least = x.takes(0);
                            best = 100 * i + j;
                        }
                        x.set(THOUGHT, i, a);
                        x.set(THOUGHT, j, b);
                    }
                }
                PuncturesAreViews x = with(road, kind, 6);
                Check.due("on " + road + ", a " + kind, x.change(0, 0), best);
                Check.due("on " + road + ", a " + kind + ": takes", x.change(0, 1), least);
            }
        }
    }

    private static void changeEdges() {
        PuncturesAreViews x = with("999999999999999999999990", 0, 1);
        Check.rule(x, "lets (thought = 9 and at = 22)*99;holds 99;pumps 0;");
        Check.due("the last two", x.change(0, 0), 2223);
        Check.due("takes", x.change(0, 1), 23);
        Check.due("a THOUGHT stays", x.told(22, THOUGHT), 9);
        Check.due("a THOUGHT stays", x.told(23, THOUGHT), 0);
        PuncturesAreViews y = with("09", 0, 1);
        Check.rule(y, "lets (thought = 9)*99;holds 99;pumps 0;");
        Check.due("the first two, and the first of like ones", y.change(0, 0), 1);
        Check.due("takes", y.change(0, 1), 23);
        y.set(PATCHES, 0, 0);
        Check.due("no fewer", y.change(0, 0), -1);
        Check.due("as so", y.change(0, 1), 23);
        PuncturesAreViews z = with("5", 0, 2);
        Check.rule(z, "lets (at = 1)*20;holds 50 - thought*9;pumps 0;");
        z.set(AIR, 0, 0);
        Check.due("0, where one is, and 1", z.change(0, 0), 1);
        Check.due("takes", z.change(0, 1), 24);
        PuncturesAreViews w = with("555555555555555555555555", 0, 2);
        Check.rule(w, "lets (at = 1)*20;holds 50 - thought*9;pumps 0;");
        w.set(AIR, 0, 0);
        Check.due("like THOUGHTS", w.change(0, 0), -1);
        Check.due("as so", w.change(0, 1), 25);
    }

    private static void bears() {
        Doc.says("BEARS (one, a PLACE): the heaviest THOUGHT (0 .. 9) there by which one isn't FLAT there for the first time one "
            + "comes there from where one is AT; NONE: one doesn't come there any more, or not by any.");
        for (int air = 1; air < 100; air++) {
            PuncturesAreViews x = with("", 0, 0);
            x.set(AIR, 0, air);
            Check.due("by " + air, x.bears(0, 1), Math.min(9, Math.min(98, air) / 7));
            Check.due("the THOUGHT stays", x.told(1, THOUGHT), 0);
        }
        PuncturesAreViews x = with("", 0, 3);
        for (int place = 0; place < 24; place++) {
            x.set(AT, 0, place);
            for (int on = 0; on < 24; on++) {
                Check.due("from " + place + " to " + on, x.bears(0, on), on > place ? 9 : -1);
            }
            if (place == 11) {
                x = with("", 0, 3);
            }
        }
        PuncturesAreViews y = with("999", 0, 1);
        Check.rule(y, "lets 99;holds 40;pumps 0;");
        Check.due("not by any", y.bears(0, 1), -1);
        Check.due("behind a patch, not by any", y.bears(0, 2), -1);
        Check.due("walks there", y.bears(0, 3), 9);
        // heavier is better at times, and the heaviest counts
        PuncturesAreViews z = with("", 0, 0);
        Check.rule(z, "lets (not(thought = 3 or thought = 5))*99;holds 1;pumps 0;");
        Check.due("5, not 3", z.bears(0, 1), 5);
        Check.rule(z, "lets (not(thought = 0))*99;holds 1;pumps 0;");
        Check.due("0 alone", z.bears(0, 1), 0);
        Check.rule(z, "lets (thought < 9)*99;holds 1;pumps 0;");
        Check.due("9 alone", z.bears(0, 1), 9);
        Doc.says("One who walks to a PLACE is not FLAT there; so BEARS tells 9 then.");
        PuncturesAreViews w = with("999999999999999999999999", 0, 0);
        w.set(AIR, 0, 0);
        for (int on = 1; on < 24; on++) {
            Check.due("walks to " + on, w.bears(0, on), 9);
        }
        Check.due("never flat", w.run(0, 60, 3), 0);
    }

    private static void first() {
        Doc.says("FIRST: who TAKES fewest STEPS; of like ones the first; NONE: nobody.");
        PuncturesAreViews x = road("");
        Check.due("nobody", x.all(0), -1);
        for (int i = 0; i < 5; i++) {
            x.rider(0, 0, 0);
            Check.due("the first of like ones", x.all(0), 0);
        }
        for (int i = 4; i >= 0; i--) {
            x.set(AT, i, 10);
            Check.due("the lone one, or the first", x.all(0), i);
        }
        for (int i = 0; i < 5; i++) {
            x.set(AT, i, 11 + i);
            Check.due("each ahead of those before", x.all(0), i);
            Check.due("takes", x.all(1), 12 - i);
        }
        x.set(AT, 2, 23);
        Check.due("home", x.all(0), 2);
        Check.due("takes", x.all(1), 0);
        for (String road : ROADS) {
            for (int kinds = 0; kinds < 6; kinds++) {
                PuncturesAreViews y = road(road);
                int fewest = -1;
                int together = 0;
                for (int i = 0; i < 5; i++) {
                    y.rider((kinds + i) % 6, 9 - i, 9 - i);
                    together += y.takes(i);
                    fewest = fewest < 0 || y.takes(i) < y.takes(fewest) ? i : fewest;
                    Check.due("on " + road + ", of " + i, y.all(0), fewest);
                    Check.due("takes", y.all(1), y.takes(fewest));
                    Check.due("together", y.all(4), together);
                }
            }
        }
    }

    private static void worst() {
        Doc.says("WORST: the PLACE at which most RIDERS are FLAT on their way HOME; of like ones the first; NONE: none are.");
        PuncturesAreViews x = road("");
        Check.rule(x, "lets (number = at)*99 + (patches = at)*99;holds 99;pumps 0;");
        Check.due("nobody", x.all(2), -1);
        Check.due("nobody", x.all(3), 0);
        x.rider(0, 0, 0);
        Check.due("none are", x.all(2), -1);
        Check.due("none are", x.all(3), 0);
        x.rider(0, 7, 0);
        Check.due("one at 7", x.all(2), 7);
        Check.due("one", x.all(3), 1);
        x.rider(0, 4, 0);
        Check.due("one at 4, the first", x.all(2), 4);
        Check.due("one", x.all(3), 1);
        x.rider(0, 7, 0);
        Check.due("two at 7", x.all(2), 7);
        Check.due("two", x.all(3), 2);
        x.rider(0, 4, 0);
        Check.due("two at 4, the first", x.all(2), 4);
        x.set(AT, 4, 4);
        Check.due("one is behind", x.all(2), 7);
        x.set(AT, 1, 7);
        Check.due("another, too", x.all(2), 4);
        // at HOME itself, and at place 1
        PuncturesAreViews y = road("");
        Check.rule(y, "lets (at = 23 or at = number)*99;holds 99;pumps 0;");
        y.rider(0, 0, 0);
        y.rider(0, 0, 0);
        Check.due("at 23", y.all(2), 23);
        Check.due("two", y.all(3), 2);
        y.set(2, 0, 1);
        y.set(2, 1, 1);
        Check.due("at 1; those who walk are not flat at 23", y.all(2), 1);
        y.set(PATCHES, 0, 1);
        y.set(PATCHES, 1, 1);
        Check.due("at 1, the first", y.all(2), 1);
        y.set(AT, 0, 23);
        y.set(AT, 1, 23);
        y.set(AIR, 0, 0);
        Check.due("home, none are", y.all(2), -1);
        // to walk is not to be flat, nor to come without air
        PuncturesAreViews z = road("999999999999999999999999");
        z.rider(0, 0, 0);
        z.set(AIR, 0, 0);
        Check.due("walks", z.all(2), -1);
    }

    /** SPREAD by its words: each deal is laid, and told. */
    private static void spreads(PuncturesAreViews x) {
        int riders = x.count(0);
        int patches = x.count(2);
        int best = -1;
        int least = MAX;
        for (int deal = 0; deal < Math.pow(10, riders); deal++) {
            String digits = String.format("%0" + riders + "d", deal);
            if (digits.chars().map(c -> c - '0').sum() != patches) {
                continue;
            }
            for (int i = 0; i < riders; i++) {
                x.set(PATCHES, i, digits.charAt(i) - '0');
            }
            if (x.all(4) < least) {
                least = x.all(4);
                best = deal;
            }
        }
        Check.due("deal", x.spread(0), best);
        Check.due("takes", x.spread(1), least);
        Check.due("none are lost", x.count(2), patches);
    }

    private static void spread() {
        Doc.says("SPREAD: PATCHES of all, dealt anew, none more than 9: by which TAKES of all, together, are fewest (of like ones "
            + "the first, as digits, number 0's the highest, lesser ones ahead).");
        int[][] riders = {{0}, {5}, {0, 0}, {5, 0}, {0, 5}, {1, 4}, {0, 1, 2}, {3, 4, 5}, {5, 5, 0}, {2, 2, 2}, {1, 3, 0}};
        for (String road : ROADS) {
            for (int[] kinds : riders) {
                PuncturesAreViews x = road(road);
                for (int i = 0; i < kinds.length; i++) {
                    x.rider(kinds[i], 2 * i, kinds.length == 3 ? 1 + i : 3 * i + 2);
                }
                spreads(x);
            }
        }
    }

    private static void spreadEdges() {
        // none takes fewer by any: lesser digits ahead, number 0's the highest
        int[][] patches = {{9}, {0}, {9, 0}, {9, 1}, {9, 9}, {9, 0, 0}, {9, 9, 0}, {9, 9, 1}, {9, 9, 9}, {0, 0, 0}, {1, 0, 0}};
        int[] due = {9, 0, 9, 19, 99, 9, 99, 199, 999, 0, 1};
        for (int i = 0; i < due.length; i++) {
            PuncturesAreViews x = road("");
            for (int p : patches[i]) {
                x.rider(0, 0, p);
            }
            Check.due("lesser ones ahead", x.spread(0), due[i]);
            Check.due("takes", x.spread(1), 23 * patches[i].length);
        }
        // none are left over, though one would TAKE fewer without
        for (int riders = 1; riders <= 3; riders++) {
            PuncturesAreViews x = road("099");
            for (int i = 0; i < riders; i++) {
                x.rider(0, 0, i == 0 ? 1 : 0);
            }
            Check.due("the last has it", x.spread(0), 1);
            Check.due("takes", x.spread(1), 23 * riders + 1);
        }
    }

    private static void fewestAnswers() {
        Doc.promise(12);
        Doc.says("FEWEST.");
        PuncturesAreViews x = with("099", 0, 0);
        x.rider(5, 0, 9);
        Check.due("one", x.fewest(0), 1);
        Check.due("the other", x.fewest(1), 0);
        Doc.says("BAD; NONE.");
        for (int one : new int[] {-1, 2, 5, MIN, MAX}) {
            Check.due("nobody " + one, x.fewest(one), -2);
        }
        Check.rule(x, "lets 99;holds 1;pumps 0;");
        Check.due("none", x.fewest(0), -1);
    }

    private static void easeAnswers() {
        Doc.promise(13);
        Doc.says("EASE (what 0; NONE), TAKES then (1; as so, if none).");
        PuncturesAreViews x = with("0999", 0, 2);
        Check.due("place", x.ease(0, 0), 1);
        Check.due("takes", x.ease(0, 1), 24);
        Check.due("as so", x.takes(0), 25);
        x.set(PATCHES, 0, 0);
        Check.due("none", x.ease(0, 0), -1);
        Check.due("as so", x.ease(0, 1), 23);
        x.set(AT, 0, 23);
        Check.due("home, none", x.ease(0, 0), -1);
        Check.due("home, as so", x.ease(0, 1), 0);
        Doc.says("BAD.");
        for (int one : NOBODY) {
            Check.due("nobody " + one, x.ease(one, 0), -2);
            Check.due("nobody " + one, x.ease(one, 1), -2);
        }
        for (int what : new int[] {-1, 2, MIN, MAX}) {
            Check.due("what " + what, x.ease(0, what), -2);
        }
    }

    private static void changeAnswers() {
        Doc.promise(14);
        Doc.says("CHANGE (what 0; NONE), TAKES then (1; as so, if none).");
        PuncturesAreViews x = with("099", 0, 1);
        Check.due("places", x.change(0, 0), 1);
        Check.due("takes", x.change(0, 1), 23);
        Check.due("as so", x.takes(0), 24);
        x.set(PATCHES, 0, 0);
        Check.due("none", x.change(0, 0), -1);
        Check.due("as so", x.change(0, 1), 23);
        x.set(AT, 0, 23);
        Check.due("home, none", x.change(0, 0), -1);
        Check.due("home, as so", x.change(0, 1), 0);
        Doc.says("BAD.");
        for (int one : NOBODY) {
            Check.due("nobody " + one, x.change(one, 0), -2);
            Check.due("nobody " + one, x.change(one, 1), -2);
        }
        for (int what : new int[] {-1, 2, MIN, MAX}) {
            Check.due("what " + what, x.change(0, what), -2);
        }
    }

    private static void bearsAnswers() {
        Doc.promise(15);
        Doc.says("BEARS.");
        PuncturesAreViews x = with("099", 0, 1);
        x.rider(5, 0, 0);
        Check.due("37 bear 35", x.bears(0, 2), 5);
        Check.due("a THINKER bears all", x.bears(1, 2), 9);
        Doc.says("BAD; NONE.");
        for (int one : new int[] {-1, 2, 5, MIN, MAX}) {
            Check.due("nobody " + one, x.bears(one, 2), -2);
        }
        for (int on : new int[] {-1, 24, MIN, MAX}) {
            Check.due("no place " + on, x.bears(0, on), -2);
        }
        Check.due("none at 0", x.bears(0, 0), -1);
        x.set(AT, 0, 23);
        Check.due("none at 23", x.bears(0, 23), -1);
        Check.due("BAD ahead of NONE", x.bears(0, 24), -2);
    }

    private static void allAnswers() {
        Doc.promise(16);
        Doc.says("FIRST (what 0; NONE), what that one TAKES (1; NONE), WORST (2; NONE), how many are FLAT there (3; 0), TAKES of "
            + "all, together (4).");
        PuncturesAreViews x = road("099");
        int[] nobody = {-1, -1, -1, 0, 0};
        for (int what = 0; what < 5; what++) {
            Check.due("nobody, what " + what, x.all(what), nobody[what]);
        }
        x.rider(5, 0, 0);
        int[] none = {0, 23, -1, 0, 23};
        for (int what = 0; what < 5; what++) {
            Check.due("none flat, what " + what, x.all(what), none[what]);
        }
        for (int i = 1; i < 5; i++) {
            x.rider(0, 0, i);
        }
        int[] five = {0, 23, 2, 4, 23 + 4 * 24};
        for (int what = 0; what < 5; what++) {
            Check.due("five, what " + what, x.all(what), five[what]);
        }
        Doc.says("BAD.");
        for (int what : new int[] {-1, 5, MIN, MAX}) {
            Check.due("what " + what, x.all(what), -2);
            Check.due("what " + what, road("").all(what), -2);
        }
    }

    private static void spreadAnswers() {
        Doc.promise(17);
        Doc.says("SPREAD (what 0; 0: nobody), TAKES of all then (1).");
        PuncturesAreViews x = road("099");
        Check.due("nobody", x.spread(0), 0);
        Check.due("nobody", x.spread(1), 0);
        x.rider(0, 0, 2);
        Check.due("one", x.spread(0), 2);
        Check.due("takes", x.spread(1), 24);
        x.rider(5, 0, 0);
        Check.due("the THINKER has them", x.spread(0), 2);
        Check.due("takes", x.spread(1), 46);
        x.rider(5, 0, 0);
        Check.due("the last has them", x.spread(0), 2);
        Check.due("takes", x.spread(1), 69);
        Doc.says("BAD; STATE: there are more than 3 RIDERS.");
        for (int what : new int[] {-1, 2, MIN, MAX}) {
            Check.due("what " + what, x.spread(what), -2);
        }
        for (int riders = 4; riders <= 5; riders++) {
            x.rider(5, 0, 0);
            Check.due("too many", x.spread(0), -3);
            Check.due("too many", x.spread(1), -3);
            Check.due("BAD ahead of STATE", x.spread(2), -2);
            Check.due("BAD ahead of STATE", x.spread(-1), -2);
        }
    }
}
