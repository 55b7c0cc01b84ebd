/** Promises 5 to 7: feed, text, force; what texts tell. */
final class TextsTest {
    public static void main(String[] args) {
        feeds();
        readsTexts();
        tellsFaults();
        tellsFaultsOfDepth();
        readsBehindFaults();
        isFull();
        forces();
        worksTextsOff();
        namesWhatIs();
        Check.end();
    }

    private static void feeds() {
        PuncturesAreViews x = new PuncturesAreViews();
        for (int letter : new int[] {-1, 256, Integer.MIN_VALUE, Integer.MAX_VALUE}) {
            Check.due("no byte", x.feed(letter), -2);
        }
        for (int i = 1; i <= 160; i++) {
            Check.due("byte " + i, x.feed(i == 1 ? 0 : i == 2 ? 255 : 32), i);
        }
        Check.due("full", x.feed(32), -4);
        Check.due("bad ahead of full", x.feed(256), -2);
        Check.due("tape", x.count(4), 160);
        Check.due("fault at 0", x.text(), -100);
        Check.due("tape is empty", x.count(4), 0);
        Check.due("byte again", x.feed(108), 1);
    }

    private static void reads(int want, String text) {
        PuncturesAreViews x = new PuncturesAreViews();
        Check.due("text of '" + text + "'", Check.read(x, text), want);
        Check.due("tape is empty", x.count(4), 0);
        Check.due("texts", x.count(3), want > 0 ? 2 : 1);
        Check.due("the rule stays", x.count(5), 0);
    }

    private static void fault(int place, String text) {
        reads(-100 - place, text);
    }

    private static final String REST = ";holds 1;pumps 1;";

    private static void readsTexts() {
        reads(1, "lets thought * 7 ; holds 40 ; pumps 1 ;");
        reads(1, "lets thought*7;holds 40;pumps 1;");
        reads(1, "\n lets 1 ; \n\nholds 1 ; pumps 1 ;\n ");
        reads(1, "lets(1);holds(air);pumps-1;");
        reads(1, "lets air" + REST);
        reads(1, "lets 9999" + REST);
        reads(1, "lets 0000" + REST);
        reads(1, "lets 1or 2and 3" + REST);
        reads(1, "lets not not 1 < 2 and 3 = 4 or not 5" + REST);
        reads(1, "lets (1 < 2) = (3 < 4)" + REST);
        reads(1, "lets 1 - - 1 * - air + -(2)" + REST);
        reads(1, "lets ((((1))))+(((((1)))))" + REST);
        reads(1, "lets -----1 + -----1 < -----1" + REST);
        reads(1, "lets not not not not not 1 or not not not not not 1" + REST);
        reads(1, "lets not(not(-1))" + REST);
    }

    private static void tellsFaults() {
        fault(0, "");
        fault(3, "   ");
        fault(0, "holds 1;");
        fault(0, "let 1" + REST);
        fault(0, "letsthought" + REST);
        fault(4, "lets");
        fault(6, "lets  ");
        fault(5, "lets ; holds 1; pumps 1;");
        fault(7, "lets 1 ");
        fault(7, "lets 1 1" + REST);
        fault(12, "lets thought7" + REST);
        fault(5, "lets thoughts" + REST);
        fault(5, "lets atz" + REST);
        fault(7, "lets at\u007b" + REST);
        fault(7, "lets at`" + REST);
        fault(6, "lets 1/" + REST);
        fault(6, "lets 1:" + REST);
        fault(5, "lets lets" + REST);
        fault(5, "lets 10000" + REST);
        fault(5, "lets 00001" + REST);
        fault(9, "lets 1 + 12345 $" + REST);
        fault(5, "lets $" + REST);
        fault(5, "lets A" + REST);
        fault(5, "lets \t1" + REST);
        fault(5, "lets \u00e9" + REST);
        fault(9, "lets 1 + " + REST);
        fault(8, "lets 1 +* 1" + REST);
        fault(9, "lets 1 + + 1" + REST);
        fault(9, "lets 1 + not 1" + REST);
        fault(9, "lets 1 < not 1" + REST);
        fault(7, "lets - not 1" + REST);
        fault(11, "lets 1 < 2 < 3" + REST);
        fault(11, "lets 1 = 2 = 3" + REST);
        fault(15, "lets not 1 < 2 = 3" + REST);
        fault(7, "lets (1" + REST);
        fault(6, "lets 1)" + REST);
        fault(6, "lets ()" + REST);
        fault(10, "lets 1 or or 2" + REST);
        fault(5, "lets or 2" + REST);
        fault(7, "lets 1;;" + REST);
        fault(7, "lets 1;pumps 1;holds 1;");
        fault(23, "lets 1;holds 1;pumps 1 ");
        fault(24, "lets 1;holds 1;pumps 1; ;");
        fault(23, "lets 1;holds 1;pumps 1;lets");
        fault(23, "lets 1;holds 1;pumps 1;12345");
        fault(23, "lets 1;holds 1;pumps 1;?");
        fault(14, "lets 1;holds 1");
    }

    private static void tellsFaultsOfDepth() {
        reads(1, "lets (((((1)))))" + REST);
        reads(1, "lets (((((1-1)))))" + REST);
        fault(10, "lets ((((((1))))))" + REST);
        fault(10, "lets ------1" + REST);
        fault(25, "lets not not not not not not 1" + REST);
        fault(12, "lets not-(-(-1))" + REST);
        reads(1, "lets not-(-(1))" + REST);
        reads(1, "lets not-(-(1 - 1))" + REST);
        fault(15, "lets not-(-(1 -(1)))" + REST);
        reads(1, "lets ((((-1)-1)))" + REST);
        fault(12, "lets (((((1-(-1))))))" + REST);
        reads(1, "lets (((not 1 or not 1)))" + REST);
        reads(1, "lets (((((1)))))*(((((1)))))" + ";holds(((((1)))));pumps-----1;");
    }

    private static void readsBehindFaults() {
        PuncturesAreViews x = new PuncturesAreViews();
        x.rider(0, 0, 0);
        Check.due("fault", Check.read(x, "lets 5 ; holds 6 ; pumps ((((("), -130);
        Check.due("as deep as can be", Check.read(x, "lets (((((7)))));holds 8;pumps 9;"), 1);
        Check.due("the rule", x.force(1), 0);
        Check.due("LETS", x.told(0, 8), 7);
        Check.due("HOLDS", x.told(0, 9), 8);
        Check.due("PUMPS", x.told(0, 10), 9);
    }

    private static void isFull() {
        PuncturesAreViews x = new PuncturesAreViews();
        for (int i = 1; i < 6; i++) {
            Check.due("text " + i, Check.read(x, "lets " + i + REST), i);
        }
        Check.due("six", x.count(3), 6);
        Check.feed(x, "lets $");
        Check.due("full, ahead of a fault", x.text(), -4);
        Check.due("the tape stays", x.count(4), 6);
        Check.due("full again", x.text(), -4);
        x.rider(0, 0, 0);
        for (int i = 0; i < 6; i++) {
            x.force(i);
            Check.due("text " + i + " is as it was", x.told(0, 8), i);
        }
    }

    private static void forces() {
        PuncturesAreViews x = new PuncturesAreViews();
        Check.due("no text 1", x.force(1), -2);
        Check.due("no text -1", x.force(-1), -2);
        Check.due("no text 6", x.force(6), -2);
        Check.due("no text so great", x.force(Integer.MAX_VALUE), -2);
        Check.due("text 0", x.force(0), 0);
        Check.read(x, "lets 5" + REST);
        x.rider(0, 0, 0);
        Check.due("not yet the rule", x.told(0, 8), 0);
        Check.due("which was", x.force(1), 0);
        Check.due("the rule", x.count(5), 1);
        Check.due("lets", x.told(0, 8), 5);
        Check.due("no text 2", x.force(2), -2);
        Check.due("the rule stays", x.count(5), 1);
        Check.due("fault", Check.read(x, "lets 6 6"), -107);
        Check.due("the rule's code stays", x.told(0, 8), 5);
        Check.due("which was", x.force(0), 1);
        Check.due("lets", x.told(0, 8), 0);
    }

    /** What a part tells is read off a RIDER's LETS. */
    private static void works(int want, String part) {
        PuncturesAreViews x = new PuncturesAreViews();
        x.rider(0, 3, 8);
        x.set(4, 0, 17);
        x.set(1, 17, 6);
        x.set(5, 0, 50);
        x.set(0, 0, 365);
        Check.rule(x, "lets " + part + REST);
        Check.due("LETS by " + part, x.told(0, 8), want);
    }

    private static void worksTextsOff() {
        works(14, "2 + 3 * 4");
        works(20, "(2 + 3) * 4");
        works(5, "10 - 3 - 2");
        works(9, "10 - (3 - 2)");
        works(24, "2 * 3 * 4");
        works(7, "10 + -3");
        works(6, "- 2 * - 3");
        works(1, "1 < 2");
        works(0, "2 < 2");
        works(0, "3 < 2");
        works(1, "1 + 1 = 2");
        works(0, "1 = 2");
        works(1, "- 1 < 0");
        works(1, "7 or 0");
        works(0, "0 or 0");
        works(1, "7 and -7");
        works(0, "7 and 0");
        works(1, "1 or 0 and 0");
        works(0, "(1 or 0) and 0");
        works(0, "not 7");
        works(1, "not 0");
        works(1, "not not 7");
        works(1, "not 2 < 1");
        works(0, "not 0 and 0");
        works(1, "not 1 or 1");
        works(1, "not (1 and 0)");
        works(30, "(1 < 2) * 30");
        works(99, "100");
        works(0, "- 1");
        // 9999 * 9999 * 43 is 4299140043; as an int it is 4172747
        works(1, "9999 * 9999 * 43 = 4172 * 1000 + 747");
        works(1, "(9999 * 9999 * 22) < 0");
        works(42, "0042");
    }

    private static void namesWhatIs() {
        works(6, "thought");
        works(50, "air");
        works(3, "number");
        works(17, "at");
        works(8, "patches");
        works(65, "day - 300");
        PuncturesAreViews x = new PuncturesAreViews();
        x.rider(0, 3, 8);
        Check.rule(x, "lets number ; holds patches ; pumps at ;");
        x.set(4, 0, 11);
        Check.due("LETS", x.told(0, 8), 3);
        Check.due("HOLDS", x.told(0, 9), 8);
        Check.due("PUMPS", x.told(0, 10), 11);
    }
}
