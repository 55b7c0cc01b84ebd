/** What the document says of texts, and in promises 5 to 7. */
final class DocTexts {
    private static final int MIN = Integer.MIN_VALUE, MAX = Integer.MAX_VALUE;
    private static final String REST = ";holds 1;pumps 1;";

    private DocTexts() {
    }

    static void says() {
        Doc.terms();
        tape();
        tokens();
        blanks();
        grammar();
        names();
        numbers();
        wraps();
        faults();
        faultsOfTokens();
        faultsOfDepth();
        opensTill();
        room();
        ofARider();
        first();
        feed();
        text();
        force();
    }

    /** What text() answers on a new object by a tape. */
    private static int read(String tape) {
        return Check.read(new PuncturesAreViews(), tape);
    }

    private static void reads(String tape) {
        Check.due("text of '" + tape + "'", read(tape), 1);
    }

    private static void fault(int place, String tape) {
        Check.due("text of '" + tape + "'", read(tape), -100 - place);
    }

    /** What an E tells of a RIDER with AIR 50, as an int of no more than 4 digits. */
    private static void tells(int want, String e) {
        Check.due("'" + e + "' is " + want, letsBy("((" + e + ")=" + want + ")*77"), 77);
        Check.due("'" + e + "'", letsBy(e), Math.max(0, Math.min(99, want)));
    }

    private static int letsBy(String e) {
        PuncturesAreViews x = new PuncturesAreViews();
        x.rider(0, 0, 0);
        x.set(5, 0, 50);
        Check.rule(x, "lets " + e + REST);
        return x.told(0, 8);
    }

    private static String times(int n, String s) {
        return s.repeat(n);
    }

    private static void tape() {
        Doc.says("A TEXT is read from THE TAPE (160 bytes at most).");
        String text = "lets thought*7;holds 40;pumps 1;";
        reads(text + times(160 - text.length(), " "));
        PuncturesAreViews x = new PuncturesAreViews();
        Check.feed(x, text + times(160 - text.length(), " "));
        Check.due("161st byte", x.feed(';'), -4);
        Check.due("bytes", x.count(4), 160);
        Check.due("text", x.text(), 1);
        // as many tokens as can be
        PuncturesAreViews y = new PuncturesAreViews();
        y.rider(0, 0, 0);
        Check.rule(y, "lets 1" + times(68, "+1") + REST + " ");
        Check.due("69 ones", y.told(0, 8), 69);
    }

    private static void tokens() {
        Doc.says("TOKENS, each as long as can be: WORDS (a .. z), NUMBERS (as many digits as stand there, 4 at most), SIGNS ( ) ; "
            + "+ - * < = ;");
        fault(0, "letsair" + REST);
        fault(7, "lets 1 orair" + REST);
        fault(7, "lets 1 ornot 1" + REST);
        fault(5, "lets atair" + REST);
        reads("lets 1or 2and 3or air" + REST);
        reads("lets 1;holds 2;pumps 3;");
        reads("lets 1234" + REST);
        fault(5, "lets 12345" + REST);
        fault(8, "lets 12 34" + REST);
        reads("lets 0012" + REST);
        tells(12, "0012");
        fault(5, "lets 00012" + REST);
        // what stands next to a .. z and to 0 .. 9 ends them
        fault(5, "lets atz" + REST);
        fault(5, "lets aat" + REST);
        fault(7, "lets at{" + REST);
        fault(7, "lets at`" + REST);
        fault(7, "lets 12/" + REST);
        fault(7, "lets 12:" + REST);
        reads("lets 1290" + REST);
        // all bytes, where a ONE stands behind
        for (int letter = 0; letter < 256; letter++) {
            boolean joins = "+-*<=".indexOf(letter) >= 0;
            boolean between = letter == 32 || letter == 10;
            int due = joins ? 1 : between || letter == ';' ? -109 : -107;
            Check.due("byte " + letter, read("lets 1 " + (char) letter + " 2" + REST), due);
        }
        for (int letter = 0; letter < 256; letter++) {
            boolean between = letter == 32 || letter == 10;
            boolean digit = letter >= '0' && letter <= '9';
            int due = between || digit || letter == '-' ? 1 : letter == '(' ? -108 : -105;
            Check.due("byte " + letter, read("lets " + (char) letter + (digit || letter == '(' ? "1 " : " 2") + REST), due);
        }
    }

    private static void blanks() {
        Doc.says("blanks (32, 10) may stand between.");
        reads(" \n lets\n(\n1 ) \n;holds 1 ; pumps\n\n1;\n ");
        reads("lets(1);holds(1);pumps(1);");
        fault(0, "l ets 1" + REST);
        fault(7, "lets 1 2" + REST);
        fault(7, "lets 1\n2" + REST);
        for (char c : new char[] {0, 8, 9, 11, 12, 13, 31, 33, 127, 160, 255}) {
            fault(0, c + "lets 1" + REST);
            fault(6, "lets 1" + c + REST);
            fault(6 + REST.length(), "lets 1" + REST + c);
        }
    }

    private static void grammar() {
        Doc.says("TEXT: lets E ; holds E ; pumps E ;");
        reads("lets 1;holds 2;pumps 3;");
        fault(0, "holds 2;lets 1;pumps 3;");
        fault(7, "lets 1;pumps 3;holds 2;");
        fault(0, "pumps 3;");
        fault(7, "lets 1 holds 2;pumps 3;");
        fault(22, "lets 1;holds 2;pumps 3");
        fault(23, "lets 1;holds 2;pumps 3;;");
        fault(23, "lets 1;holds 2;pumps 3;lets 1;");
        fault(5, "lets ;holds 2;pumps 3;");
        Doc.says("E: AND { or AND }. AND: NOT { and NOT }.");
        tells(1, "1 or 0 and 0");
        tells(0, "(1 or 0) and 0");
        tells(1, "0 and 0 or 1");
        tells(1, "0 or 0 or 7");
        tells(1, "1 and 2 and 3");
        tells(0, "1 and 0 and 3");
        tells(0, "1 and 2 and 0");
        fault(10, "lets 1 or or 1" + REST);
        fault(10, "lets 1 or ;holds 1;pumps 1;");
        fault(11, "lets 1 and or 1" + REST);
        Doc.says("NOT: not NOT, or SUM, perhaps < or = and a SUM.");
        tells(0, "not 7");
        tells(1, "not 0");
        tells(1, "not not 7");
        tells(1, "not 2 < 1");
        tells(1, "not 1 = 2");
        tells(1, "1 < 1 + 1");
        tells(1, "1 + 1 = 2");
        tells(0, "2 < 1");
        tells(0, "2 < 2");
        fault(11, "lets 1 < 2 < 3" + REST);
        fault(11, "lets 1 = 2 = 3" + REST);
        fault(11, "lets 1 < 2 = 3" + REST);
        fault(9, "lets 1 < not 3" + REST);
        fault(9, "lets 1 + not 3" + REST);
        Doc.says("SUM: TERM { + or - TERM }. TERM: ONE { * ONE }.");
        tells(14, "2 + 3 * 4");
        tells(20, "(2 + 3) * 4");
        tells(5, "10 - 3 - 2");
        tells(9, "10 - 3 + 2");
        tells(24, "2 * 3 * 4");
        tells(-4, "2 - 2 * 3");
        fault(9, "lets 1 + + 2" + REST);
        fault(9, "lets 1 * * 2" + REST);
        fault(9, "lets 1 * < 2" + REST);
        Doc.says("ONE: a NUMBER, a NAME, - ONE, ( E ).");
        tells(7, "7");
        tells(50, "air");
        tells(-7, "-7");
        tells(7, "--7");
        tells(-21, "3 * -7");
        tells(10, "3 - -7");
        tells(-50, "-air");
        tells(-3, "-(1 or 0) - 2");
        tells(1, "(1 < 2)");
        fault(6, "lets ()" + REST);
        fault(7, "lets (1;holds 1;pumps 1;");
        fault(6, "lets 1)" + REST);
        fault(5, "lets +1" + REST);
        fault(5, "lets *1" + REST);
    }

    private static void names() {
        Doc.says("NAMES are thought air number at patches day; lets, holds, pumps, or, and, not are KEYS.");
        for (String name : new String[] {"thought", "air", "number", "at", "patches", "day"}) {
            reads("lets " + name + REST);
            reads("lets 1;holds " + name + ";pumps " + name + ";");
            fault(7, "lets 1 " + name + REST);
            fault(5, "lets " + name + "s" + REST);
            fault(5, "lets " + name.substring(1) + REST);
            fault(5, "lets " + name.substring(0, name.length() - 1) + REST);
            fault(5, "lets " + name.toUpperCase() + REST);
        }
        for (String key : new String[] {"lets", "holds", "pumps", "or", "and"}) {
            fault(5, "lets " + key + REST);
            fault(6, "lets (" + key + ")" + REST);
        }
        fault(8, "lets not" + REST);
        for (String word : new String[] {"l", "bets", "letx", "let", "letss", "xlets"}) {
            fault(0, word + " 1" + REST);
        }
    }

    private static void numbers() {
        Doc.says("An E is an int (32 bits, wrapping): of or, and, not, <, = 1 or 0 (what is not 0 is true).");
        for (int a : new int[] {0, 1, 2, -1, -2}) {
            tells(a == 0 ? 1 : 0, "not " + a);
            for (int b : new int[] {0, 1, 2, -1, -2}) {
                tells(a != 0 || b != 0 ? 1 : 0, a + " or " + b);
                tells(a != 0 && b != 0 ? 1 : 0, a + " and " + b);
                tells(a < b ? 1 : 0, a + " < " + b);
                tells(a == b ? 1 : 0, a + " = " + b);
            }
        }
        tells(8, "(7 or 0) + (7 and 3) * 3 + (not 0) * 4");
    }

    private static void wraps() {
        String min = "2048*1024*1024";
        tells(1, min + " < 0");
        tells(1, "0 < " + min + " - 1");
        tells(1, "-(" + min + ") = " + min);
        tells(0, min + " * 2");
        // 9999 * 9999 * 43 is 4299140043; as an int it is 4172747
        tells(1, "9999*9999*43 = 4172*1000 + 747");
        tells(5, min + " + " + min + " + 5");
        tells(1, "(" + min + " - 1 + 1) = " + min);
        tells(1, "-" + min + " - 1 = " + min + " - 1");
    }

    private static void faults() {
        Doc.says("FAULT: the place of the first byte of the first TOKEN that can't stand there (the text's size, if it ends too "
            + "early),");
        fault(5, "lets or" + REST);
        fault(5, "lets holds" + REST);
        fault(9, "lets 1   thought" + REST);
        fault(0, "air");
        fault(0, "7777 $ 12345 xyz");
        fault(9, "lets 1 + ;");
        fault(0, "");
        fault(1, " ");
        fault(160, times(160, "\n"));
        fault(4, "lets");
        fault(6, "lets 1");
        fault(8, "lets 1  ");
        fault(7, "lets 1;");
        fault(9, "lets 1 + ");
        fault(7, "lets (1");
        fault(8, "lets not");
        fault(6, "lets -");
        fault(23, "lets 1;holds 1;pumps 1 ");
        fault(160, "lets 1" + times(154, " "));
    }

    private static void faultsOfTokens() {
        Doc.says("also of a byte that begins none, a WORD that is neither KEY nor NAME, a NUMBER that is too long,");
        fault(5, "lets #" + REST);
        fault(7, "lets 1 #" + REST);
        fault(0, "#lets 1" + REST);
        fault(6, "lets 1.5" + REST);
        fault(22, "lets 1;holds 1;pumps 1#");
        fault(23, "lets 1;holds 1;pumps 1;#");
        fault(5, "lets word" + REST);
        fault(9, "lets 1 + word" + REST);
        fault(7, "lets 1 word" + REST);
        fault(23, "lets 1;holds 1;pumps 1;word");
        fault(9, "lets 1 + 10000" + REST);
        fault(7, "lets 1 10000" + REST);
        fault(5, "lets 00000" + REST);
        fault(5, "lets " + times(120, "9"));
        fault(23, "lets 1;holds 1;pumps 1;10000");
        // the first one counts
        fault(7, "lets 1 # word 10000 ;");
        fault(7, "lets 1 word # 10000 ;");
        fault(7, "lets 1 10000 # word ;");
        fault(7, "lets 1 1 # word 10000 ;");
    }

    private static void faultsOfDepth() {
        Doc.says("a ( , a not, a - ahead of a ONE while 5 of these are open");
        for (int deep = 0; deep <= 7; deep++) {
            int due = deep <= 5 ? 1 : -110;
            Check.due(deep + " (", read("lets " + times(deep, "(") + "1" + times(deep, ")") + REST), due);
            Check.due(deep + " -", read("lets " + times(deep, "-") + "1" + REST), due);
            Check.due(deep + " not", read("lets " + times(deep, "not ") + "1" + REST), deep <= 5 ? 1 : -125);
        }
        reads("lets not not -(-1)" + REST);
        fault(16, "lets not not -(-(1))" + REST);
        fault(16, "lets not not -(--1)" + REST);
        reads("lets not not ((not 1))" + REST);
        fault(19, "lets not not ((not -1))" + REST);
        // a - between is not ahead of a ONE
        reads("lets (((((1-1)))))" + REST);
        reads("lets (((((1-1-air)))))" + REST);
        fault(12, "lets (((((1--1)))))" + REST);
        fault(12, "lets (((((1+(1))))))" + REST);
        fault(12, "lets (((((1*-1)))))" + REST);
        fault(14, "lets (((((1or not 1)))))" + REST);
    }

    private static void opensTill() {
        Doc.says("(a ( till its ) , not and - till what they belong to ends).");
        reads("lets (((((1)))))*(((((1)))))" + REST);
        reads("lets -----1------1" + REST);
        reads("lets not not not not not 1 and not not not not not 1" + REST);
        reads("lets (((((1)))));holds(((((1)))));pumps-----1;");
        reads("lets ((((1)+(1))+(1))+(1))" + REST);
        reads("lets (((((1))+((1))))+((((1)))))" + REST);
        // a not ends behind what is compared
        reads("lets not ((((1)))) < ((((2))))" + REST);
        fault(24, "lets not ((((1)))) <(((((2)))))" + REST);
        // it does not end behind the first ONE, and a - does
        fault(24, "lets not not not not 1+((1))" + REST);
        reads("lets ----1+(((((1)))))" + REST);
        reads("lets -(1)-(((((1)))))" + REST);
        fault(10, "lets -(((((1)))))" + REST);
        // a not ends ahead of and, or
        reads("lets not not not not not 1 or (((((1)))))" + REST);
        reads("lets not not not not not 1 and (((((1)))))" + REST);
        reads("lets not not not not not 1 = 2 or (((((1)))))" + REST);
    }

    private static void room() {
        Doc.says("There are 6 TEXTS at most, TEXT 0 with them.");
        PuncturesAreViews x = new PuncturesAreViews();
        Check.due("text 0", x.count(3), 1);
        for (int i = 1; i < 6; i++) {
            Check.due("text", Check.read(x, "lets " + i + REST), i);
            Check.due("texts", x.count(3), i + 1);
        }
        Check.due("a seventh", Check.read(x, "lets 6" + REST), -4);
        Check.due("texts", x.count(3), 6);
    }

    private static void ofARider() {
        Doc.says("Of a RIDER: thought: the THOUGHT where one is AT; air: AIR; number: NUMBER; at: where one is AT; patches: "
            + "PATCHES; day: DAY.");
        String[] names = {"thought", "air", "number", "at", "patches", "day"};
        int[] first = {6, 50, 3, 17, 8, 65};
        int[] then = {2, 49, 4, 18, 9, 66};
        for (int i = 0; i < 6; i++) {
            PuncturesAreViews x = new PuncturesAreViews();
            x.rider(0, 3, 8);
            x.set(4, 0, 17);
            x.set(1, 17, 6);
            x.set(1, 18, 2);
            x.set(5, 0, 50);
            x.set(0, 0, 65);
            Check.rule(x, "lets " + names[i] + ";holds 1;pumps " + names[i] + ";");
            Check.due(names[i], x.told(0, 8), first[i]);
            Check.due(names[i], x.told(0, 10), first[i]);
            x.set(2, 0, 4);
            x.set(3, 0, 9);
            x.set(4, 0, 18);
            x.set(5, 0, 49);
            x.set(0, 0, 66);
            Check.due(names[i], x.told(0, 8), then[i]);
        }
        Doc.says("lets, holds, pumps (0 .. 99, else the bound).");
        int[] values = {-9999, -1, 0, 1, 98, 99, 100, 9999};
        for (int v : values) {
            PuncturesAreViews x = new PuncturesAreViews();
            x.rider(2, 0, 1);
            x.rider(4, 0, 1);
            x.rider(2, 0, 1);
            String e = v < 0 ? "0-" + -v : "" + v;
            Check.rule(x, "lets " + e + ";holds " + e + ";pumps " + e + ";");
            int told = Math.max(0, Math.min(99, v));
            Check.due("lets " + v, x.told(0, 8), told / 2);
            Check.due("holds " + v, x.told(1, 9), Math.min(99, told + 5));
            Check.due("pumps " + v, x.told(2, 10), Math.min(99, told + 1));
        }
    }

    private static void first() {
        Doc.says("TEXT 0, at first THE RULE, is: lets thought * 7 ; holds 40 ; pumps 1 ;");
        PuncturesAreViews x = new PuncturesAreViews();
        Check.due("the rule", x.count(5), 0);
        x.rider(0, 0, 0);
        for (int t = 0; t < 10; t++) {
            x.set(1, 0, t);
            Check.due("lets at " + t, x.told(0, 8), 7 * t);
            Check.due("holds", x.told(0, 9), 40);
            Check.due("pumps", x.told(0, 10), 1);
        }
    }

    private static void feed() {
        Doc.promise(5);
        Doc.says("A byte (0 .. 255) comes behind THE TAPE: how many it has.");
        for (int letter = 0; letter < 256; letter++) {
            PuncturesAreViews x = new PuncturesAreViews();
            Check.due("first", x.feed(letter), 1);
            Check.due("second", x.feed(255 - letter), 2);
            Check.due("bytes", x.count(4), 2);
        }
        PuncturesAreViews x = new PuncturesAreViews();
        for (int i = 1; i <= 160; i++) {
            Check.due("byte", x.feed(i), i);
        }
        Doc.says("BAD; FULL.");
        PuncturesAreViews y = new PuncturesAreViews();
        for (int letter : new int[] {-1, 256, 257, MIN, MAX}) {
            Check.due("no byte", y.feed(letter), -2);
            Check.due("BAD ahead of FULL", x.feed(letter), -2);
        }
        Check.due("no bytes", y.count(4), 0);
        Check.due("full", x.feed(0), -4);
        Check.due("full", x.feed(255), -4);
        Check.due("bytes", x.count(4), 160);
    }

    private static void text() {
        Doc.promise(6);
        Doc.says("THE TAPE, which is empty then (by a FAULT, too), is a TEXT: its number;");
        PuncturesAreViews x = new PuncturesAreViews();
        Check.due("number", Check.read(x, "lets 5" + REST), 1);
        Check.due("empty", x.count(4), 0);
        Check.due("a fault", Check.read(x, "lets 6 6" + REST), -107);
        Check.due("empty by a fault, too", x.count(4), 0);
        Check.due("no text of it", x.count(3), 2);
        Check.due("a fault far behind", Check.read(x, "lets 1;holds 2;pumps ((((("), -126);
        Check.due("number", Check.read(x, "lets (((((7)))))" + REST), 2);
        x.rider(0, 0, 0);
        Check.due("which was", x.force(2), 0);
        Check.due("nothing of the fault is in it", x.told(0, 8), 7);
        Check.due("nothing of the fault is in it", x.told(0, 9), 1);
        Check.due("which was", x.force(1), 2);
        Check.due("the one ahead", x.told(0, 8), 5);
        Check.due("which was", x.force(0), 1);
        Check.due("not yet the rule", x.count(5), 0);
        Doc.says("-100 less the place of its FAULT.");
        Check.due("at 0", x.text(), -100);
        Check.due("at 1", Check.read(x, " #"), -101);
        Check.due("at 159", Check.read(x, times(159, " ") + "#"), -259);
        Check.due("at 160", Check.read(x, times(160, " ")), -260);
        Doc.says("FULL (ahead of all): no TEXT more has room (THE TAPE stays).");
        for (int i = 3; i < 6; i++) {
            Check.due("number", Check.read(x, "lets 7" + REST), i);
        }
        Check.due("full, by no tape", x.text(), -4);
        Check.due("full, by a fault", Check.read(x, "lets #"), -4);
        Check.due("the tape stays", x.count(4), 6);
        Check.due("full again", x.text(), -4);
        Check.due("comes behind", x.feed('#'), 7);
        PuncturesAreViews y = new PuncturesAreViews();
        for (int i = 1; i < 6; i++) {
            Check.read(y, "lets 7" + REST);
        }
        Check.due("full, by a text", Check.read(y, "lets 7" + REST), -4);
        Check.due("the tape stays", y.count(4), 6 + REST.length());
    }

    private static void force() {
        Doc.promise(7);
        Doc.says("A TEXT is THE RULE: which was.");
        PuncturesAreViews x = new PuncturesAreViews();
        x.rider(0, 0, 0);
        for (int i = 1; i < 6; i++) {
            Check.read(x, "lets " + 10 * i + REST);
        }
        int was = 0;
        for (int text : new int[] {0, 5, 5, 1, 4, 0, 3, 2}) {
            Check.due("which was", x.force(text), was);
            Check.due("the rule", x.count(5), text);
            Check.due("LETS", x.told(0, 8), 10 * text);
            was = text;
        }
        Doc.says("BAD.");
        PuncturesAreViews y = new PuncturesAreViews();
        for (int text : new int[] {-1, 6, MIN, MAX}) {
            Check.due("no text " + text, x.force(text), -2);
            Check.due("no text " + text, y.force(text), -2);
        }
        Check.due("no text 1", y.force(1), -2);
        Check.due("one text", Check.read(y, "lets 9" + REST), 1);
        Check.due("no text 2", y.force(2), -2);
        Check.due("the rule stays", y.count(5), 0);
        Check.due("the rule stays", x.count(5), 2);
    }
}
