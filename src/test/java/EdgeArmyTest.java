/** Boundary cases of TOKENS and of an ARMY's text (promise 4, and the terms that bind it). */
public final class EdgeArmyTest {
    private static final Edge EDGE = new Edge();
    private static final String[] LIFTS = {"left", "right", "both"};

    public static void main(String[] args) {
        tokens();
        anArmysLines();
        anArmysNames();
        EDGE.finish();
    }

    private static void tokens() {
        wordsHaveOneToSevenLetters();
        wordsAreOfSmallLetters();
        numbersHaveOneToThreeDigits();
        numbersAreOfDigits();
        blanksAreTwo();
        blanksBetweenOrNot();
        runsGoOn();
    }

    private static void anArmysLines() {
        anArmyHasNineHundredBytes();
        anArmyMayBeEmptyOrFull();
        xAndYAndBrow();
        joinedThenGrey();
        firstUnderSecond();
        eachFirstOneOnce();
        nobodyUnderHimself();
        eachTwoLiftsOnce();
        liftsAreNumbered();
        foesXAndY();
        clearOneToFive();
        rainOneToThirty();
    }

    private static void anArmysNames() {
        namesAreNoToldWords();
        namesToldOnce();
        eightMen();
        sevenOrders();
        fourFoes();
        numberedFromNought();
    }

    // ---- tokens

    private static void wordsHaveOneToSevenLetters() {
        EDGE.of(4, "WORDS: small letters, 1 to 7");
        EDGE.army("man q 0 0 0;", 1);
        EDGE.army("man abcdefg 0 0 0;", 1);
        EDGE.armyFault("man abcdefgh 0 0 0;", 4, 1);
        EDGE.armyFault("man " + "a".repeat(200) + " 0 0 0;", 4, 1);
        EDGE.armyFault("order abcdefgh left left;", 6, 1);
        BrowArmy x = EDGE.army("man abcdefg 0 0 1;order bcdefgh left left;", 2);
        EDGE.book(x, "abcdefg gives bcdefgh;");
        EDGE.bookFault(x, "abcdefgh sleeps;", 0, 1);
        EDGE.bookFault(x, "abcdefg gives bcdefghi;", 14, 1);
        EDGE.sentence(x, "under abcdefg or has bcdefgh", 2, 0);
        EDGE.sentenceFault(x, "under abcdefgh", 6, 1);
        EDGE.sentenceFault(x, "has bcdefghi", 4, 1);
    }

    private static void wordsAreOfSmallLetters() {
        EDGE.of(4, "WORDS: small letters, 1 to 7");
        EDGE.army("man a 0 0 0;", 1);
        EDGE.army("man z 0 0 0;", 1);
        for (char sign : new char[] {'a' - 1, 'z' + 1, 'A', 'Z', '_', '-', '\'', 128, 233, 255}) {
            EDGE.armyFault("man " + sign + " 0 0 0;", 4, 1);
            EDGE.armyFault("man a" + sign + " 0 0 0;", 5, 1);
            EDGE.armyFault(sign + "man a 0 0 0;", 0, 1);
        }
    }

    private static void numbersHaveOneToThreeDigits() {
        EDGE.of(4, "NUMBERS: 1 to 3 digits");
        BrowArmy x = EDGE.army("man a 000 030 009;", 1);
        EDGE.man(x, 0, 0, 0);
        EDGE.man(x, 0, 1, 30);
        EDGE.man(x, 0, 2, 9);
        EDGE.armyFault("man a 0000 0 0;", 6, 1);
        EDGE.armyFault("man a 0 0000 0;", 8, 1);
        EDGE.armyFault("man a 0 0 0000;", 10, 1);
        EDGE.armyFault("man a 00000000000000000000 0 0;", 6, 1);
        EDGE.armyFault("man a 4294967296 0 0;", 6, 1);
        EDGE.armyFault("rain 0006;", 5, 1);
        EDGE.book(x, "hour 001;");
        EDGE.bookFault(x, "hour 0001;", 5, 1);
        EDGE.sentence(x, "number<999", 1, 1);
        EDGE.sentenceFault(x, "number<0999", 7, 1);
    }

    private static void numbersAreOfDigits() {
        EDGE.of(4, "NUMBERS: 1 to 3 digits");
        EDGE.man(EDGE.army("man a 10 23 9;", 1), 0, 1, 23);
        EDGE.armyFault("man a / 0 0;", 6, 1);
        EDGE.armyFault("man a : 0 0;", 6, 1);
        EDGE.armyFault("man a 1/ 0 0;", 7, 1);
        EDGE.armyFault("man a 1: 0 0;", 7, 1);
        EDGE.armyFault("man a -1 0 0;", 6, 1);
        EDGE.armyFault("man a +1 0 0;", 6, 1);
    }

    private static void blanksAreTwo() {
        EDGE.of(4, "with blanks (32, 10) between them or not");
        for (int sign = 0; sign < 256; sign++) {
            String text = "man" + (char) sign + "a 0 0 0;";
            boolean goesOn = sign >= 'a' && sign <= 'z' || sign >= '0' && sign <= '9';
            if (sign == 32 || sign == 10) {
                EDGE.army(text, 1);
            } else {
                EDGE.armyFault(text, goesOn ? 0 : 3, 1);
            }
        }
    }

    private static void blanksBetweenOrNot() {
        EDGE.of(4, "with blanks (32, 10) between them or not");
        EDGE.army(" \n\n  man \n a\n0  0\n0 joined\n\ngrey  ;\n foe 1\n1 ; ", 2);
        EDGE.army("man a 0 0 0;man b 0 0 0;", 2);
        EDGE.armyFault("mana 0 0 0;", 0, 1);
        EDGE.armyFault("man a 00 0;", 10, 1);
        BrowArmy x = EDGE.army("man a 0 0 5;", 1);
        EDGE.sentence(x, "(idle)and(brow=5)or not(grey)", 7, 1);
        EDGE.sentence(x, " ( idle\n) and ( brow = 5 ) or not ( grey ) ", 7, 1);
        EDGE.book(x, "\na\nsleeps\n;a wakes;hour\n1;");
    }

    private static void runsGoOn() {
        EDGE.of(4, "(A WORD, NUMBER goes on as long as small letters and digits do; what is not as told is no TOKEN.)");
        EDGE.armyFault("man a1 0 0 0;", 4, 1);
        EDGE.armyFault("man 1a 0 0 0;", 4, 1);
        EDGE.armyFault("man a 1a 0 0;", 6, 1);
        EDGE.armyFault("man a 0 0 0joined;", 10, 1);
        EDGE.armyFault("rain6;", 0, 1);
        BrowArmy x = EDGE.army("man a 0 0 5;", 1);
        EDGE.bookFault(x, "hour1;", 0, 1);
        EDGE.sentenceFault(x, "brow<5or idle", 5, 1);
        EDGE.sentenceFault(x, "idleor idle", 0, 1);
    }

    // ---- the army

    private static void anArmyHasNineHundredBytes() {
        EDGE.of(4, "An ARMY is a text of at most 900 bytes");
        EDGE.army(Due.padded("man a 0 0 0;", 899), 1);
        EDGE.army(Due.padded("man a 0 0 0;", 900), 1);
        EDGE.armyFault(Due.padded("man a 0 0 0;", 901), 900, 1);
        EDGE.armyFault(Due.padded("man a 0 0 0;", 940), 900, 1);
        EDGE.army(" ".repeat(888) + "man a 0 0 0;", 1);
        EDGE.armyFault(" ".repeat(889) + "man a 0 0 0;", 900, 1);
        EDGE.army(" ".repeat(900), 0);
        EDGE.armyFault(" ".repeat(901), 900, 1);
    }

    private static String full() {
        StringBuilder text = new StringBuilder(Edge.eightMen());
        for (char c = 'b'; c <= 'h'; c++) {
            text.append("under ").append(c).append(' ').append((char) (c - 1)).append(';');
        }
        return text + Edge.sevenOrders() + "foe 0 0;foe 0 0;foe 30 30;foe 30 30;clear 5;rain 30;";
    }

    private static void anArmyMayBeEmptyOrFull() {
        EDGE.of(4, "{ LINE ; }");
        BrowArmy empty = EDGE.army("", 0);
        BrowArmy full = EDGE.army(full(), 28);
        int[] counts = {8, 7, 4, 5, 30, 0};
        int[] untold = {0, 0, 0, 2, 6, 0};
        for (int what = 0; what < counts.length; what++) {
            EDGE.is("count(" + what + ") of a full army", full.count(what), counts[what]);
            EDGE.is("count(" + what + ") of an empty army", empty.count(what), untold[what]);
        }
        EDGE.is("army() of an empty tape, the full one", full.army(), 0);
        for (int what = 0; what < counts.length; what++) {
            EDGE.is("count(" + what + ") then", full.count(what), untold[what]);
        }
        EDGE.armyFault(";", 0, 1);
        EDGE.armyFault("man a 0 0 0", 11, 1);
        EDGE.armyFault("man a 0 0 0;;", 12, 1);
    }

    private static void xAndYAndBrow() {
        EDGE.of(4, "'man' NAME X Y BROW [ 'joined' ] [ 'grey' ] (0 to 30 each; 0 to 9)");
        int[] xs = {0, 30, 0, 30};
        int[] ys = {0, 0, 30, 30};
        int[] brows = {0, 9, 9, 0};
        for (int i = 0; i < xs.length; i++) {
            BrowArmy x = EDGE.army("man a " + xs[i] + " " + ys[i] + " " + brows[i] + ";", 1);
            EDGE.man(x, 0, 0, xs[i]);
            EDGE.man(x, 0, 1, ys[i]);
            EDGE.man(x, 0, 2, brows[i]);
        }
        for (int number : new int[] {31, 32, 99, 100, 999}) {
            EDGE.armyFault("man a " + number + " 0 0;", 6, 2);
            EDGE.armyFault("man a 0 " + number + " 0;", 8, 2);
        }
        for (int number : new int[] {10, 11, 30, 99, 999}) {
            EDGE.armyFault("man a 0 0 " + number + ";", 10, 2);
        }
    }

    private static void joinedThenGrey() {
        EDGE.of(4, "'man' NAME X Y BROW [ 'joined' ] [ 'grey' ] (0 to 30 each; 0 to 9)");
        BrowArmy x = EDGE.army("man a 0 0 0;man b 0 0 0 joined;man c 0 0 0 grey;man d 0 0 0 joined grey;", 4);
        EDGE.sentence(x, "joined", 1, 10);
        EDGE.sentence(x, "grey", 1, 12);
        EDGE.armyFault("man a 0 0 0 grey joined;", 17, 1);
        EDGE.armyFault("man a 0 0 0 joined joined;", 19, 1);
        EDGE.armyFault("man a 0 0 0 grey grey;", 17, 1);
        EDGE.armyFault("man a 0 0 0 joined grey grey;", 24, 1);
        EDGE.armyFault("man a 0 0 joined;", 10, 1);
    }

    private static void firstUnderSecond() {
        EDGE.of(4, "(the first is UNDER the second; each first one once, nobody UNDER himself over others)");
        BrowArmy x = EDGE.army("man a 0 0 9;man b 0 0 9;under a b;", 3);
        EDGE.man(x, 0, 9, 1);
        EDGE.man(x, 1, 9, -1);
        EDGE.is("reads(1)", x.reads(1), 1);
        EDGE.is("reads(0)", x.reads(0), 0);
    }

    private static void eachFirstOneOnce() {
        EDGE.of(4, "a first one told 'under' again (at him)");
        String three = "man a 0 0 0;man b 0 0 0;man c 0 0 0;";
        EDGE.army(three + "under a c;under b c;", 5);
        EDGE.armyFault(three + "under a b;under a c;", 52, 3);
        EDGE.armyFault(three + "under a b;under a b;", 52, 3);
        EDGE.armyFault(three + "under a b;under a a;", 52, 3);
        EDGE.armyFault(three + "under b a;under b zz;", 52, 3);
    }

    private static void nobodyUnderHimself() {
        EDGE.of(4, "a second one who is the first or UNDER him, over others, too (at him)");
        String men = Edge.eightMen();
        int under = men.length();
        EDGE.armyFault(men + "under a a;", under + 8, 3);
        EDGE.armyFault(men + "under h h;", under + 8, 3);
        StringBuilder chain = new StringBuilder(men);
        for (char c = 'a'; c < 'h'; c++) {
            chain.append("under ").append(c).append(' ').append((char) (c + 1)).append(';');
            // each of those who are told so far would close the ring
            for (char back = 'a'; back <= c + 1; back++) {
                EDGE.armyFault(chain + "under " + (char) (c + 1) + " " + back + ";", chain.length() + 8, 3);
            }
        }
        EDGE.army(chain.toString(), 15);
        // two under one, and one of another branch, are no ring
        EDGE.army(men + "under a b;under c b;under b d;under e a;", 12);
    }

    private static void eachTwoLiftsOnce() {
        EDGE.of(4, "'order' NAME LIFT LIFT (each two lifts, as told, once)");
        for (int i = 0; i < 9; i++) {
            String first = "order a " + LIFTS[i / 3] + " " + LIFTS[i % 3] + ";";
            for (int j = 0; j < 9; j++) {
                String head = first + "order b " + LIFTS[j / 3] + " ";
                if (i == j) {
                    EDGE.armyFault(head + LIFTS[j % 3] + ";", head.length(), 3);
                } else {
                    EDGE.army(head + LIFTS[j % 3] + ";", 2);
                }
            }
        }
        EDGE.armyFault("order a left;", 12, 1);
        EDGE.armyFault("order a left left left;", 18, 1);
    }

    private static void liftsAreNumbered() {
        EDGE.of(4, "LIFT: 'left', 'right', 'both', numbered from 1");
        BrowArmy x = EDGE.army("order a left right;order b both left;order c right both;", 3);
        int[] due = {1, 2, 3, 1, 2, 3};
        for (int i = 0; i < due.length; i++) {
            EDGE.is("order(" + i / 2 + ", " + i % 2 + ")", x.order(i / 2, i % 2), due[i]);
        }
        EDGE.armyFault("order a up left;", 8, 1);
        EDGE.armyFault("order a left east;", 13, 1);
        EDGE.armyFault("order a 1 2;", 8, 1);
    }

    private static void foesXAndY() {
        EDGE.of(4, "'foe' X Y");
        BrowArmy x = EDGE.army("man a 0 0 9;clear 1;foe 0 0;foe 30 0;foe 0 30;foe 30 30;", 6);
        EDGE.is("foes(0)", x.foes(0), 1);
        EDGE.armyFault("foe 31 0;", 4, 2);
        EDGE.armyFault("foe 0 31;", 6, 2);
        EDGE.armyFault("foe 30 999;", 7, 2);
        EDGE.armyFault("foe 0;", 5, 1);
        EDGE.armyFault("foe 0 0 0;", 8, 1);
    }

    private static void clearOneToFive() {
        EDGE.of(4, "'clear' N (1 to 5; once; 2 without)");
        EDGE.is("count(3) without", EDGE.army("man a 0 0 0;", 1).count(3), 2);
        for (int n = 1; n <= 5; n++) {
            EDGE.is("count(3)", EDGE.army("clear " + n + ";", 1).count(3), n);
        }
        for (int n : new int[] {0, 6, 7, 99, 999}) {
            EDGE.armyFault("clear " + n + ";", 6, 2);
        }
        EDGE.armyFault("clear 2;clear 2;", 8, 3);
        EDGE.armyFault("clear 5;rain 5;clear 1;", 15, 3);
        // at the word, ahead of its number
        EDGE.armyFault("clear 5;clear 6;", 8, 3);
        EDGE.armyFault("clear 5;clear;", 8, 3);
    }

    private static void rainOneToThirty() {
        EDGE.of(4, "'rain' N (1 to 30; once; 6 without)");
        EDGE.is("count(4) without", EDGE.army("man a 0 0 0;", 1).count(4), 6);
        for (int n : new int[] {1, 2, 6, 29, 30}) {
            EDGE.is("count(4)", EDGE.army("rain " + n + ";", 1).count(4), n);
        }
        for (int n : new int[] {0, 31, 32, 99, 999}) {
            EDGE.armyFault("rain " + n + ";", 5, 2);
        }
        EDGE.armyFault("rain 6;rain 6;", 7, 3);
        EDGE.armyFault("rain 6;clear 5;rain 1;", 15, 3);
        EDGE.armyFault("rain 6;rain 31;", 7, 3);
        EDGE.armyFault("rain 6;rain;", 7, 3);
    }

    private static void namesAreNoToldWords() {
        EDGE.of(4, "NAME: a WORD, none of those told here, in a BOOK or a SENTENCE; told once");
        for (String word : Edge.TOLD_WORDS) {
            EDGE.armyFault("man " + word + " 0 0 0;", 4, 1);
            EDGE.armyFault("order " + word + " left left;", 6, 1);
            EDGE.armyFault("man a 0 0 0;under " + word + " a;", 18, 1);
            EDGE.armyFault("man a 0 0 0;under a " + word + ";", 20, 1);
            // a letter more or less is a name
            EDGE.army("man " + (word.length() < 7 ? word + "x" : "x") + " 0 0 0;", 1);
            EDGE.army("man " + word.substring(1) + " 0 0 0;", 1);
        }
        for (String word : new String[] {"none", "army", "book", "line", "name", "say", "lift", "give", "up", "x", "y"}) {
            EDGE.army("man " + word + " 0 0 0;", 1);
        }
    }

    private static void namesToldOnce() {
        EDGE.of(4, "a NAME told twice, not told, or of another sort");
        EDGE.armyFault("man a 0 0 0;man a 0 0 0;", 16, 3);
        EDGE.armyFault("man a 0 0 0;order a left left;", 18, 3);
        EDGE.armyFault("order a left left;man a 0 0 0;", 22, 3);
        EDGE.armyFault("order a left left;order a left both;", 24, 3);
        EDGE.army("man a 0 0 0;man aa 0 0 0;man aaa 0 0 0;order aaaa left left;", 4);
        EDGE.army("man abcdefg 0 0 0;man abcdefh 0 0 0;man bbcdefg 0 0 0;man bcdefg 0 0 0;", 4);
        EDGE.armyFault("man abcdefg 0 0 0;man bbcdefg 0 0 0;man abcdefg 0 0 0;", 40, 3);
    }

    private static void eightMen() {
        EDGE.of(4, "8 MEN, 7 ORDERS, 4 FOES at most, numbered from 0 each");
        EDGE.is("count(0)", EDGE.army(Edge.eightMen(), 8).count(0), 8);
        EDGE.armyFault(Edge.eightMen() + "man i 0 0 0;", 96, 4);
        EDGE.armyFault("foe 0 0; " + Edge.eightMen() + " man i 0 0 0;", 106, 4);
    }

    private static void sevenOrders() {
        EDGE.of(4, "8 MEN, 7 ORDERS, 4 FOES at most, numbered from 0 each");
        EDGE.is("count(1)", EDGE.army(Edge.sevenOrders(), 7).count(1), 7);
        EDGE.armyFault(Edge.sevenOrders() + "order i both right;", Edge.sevenOrders().length(), 4);
        EDGE.armyFault(Edge.eightMen() + Edge.sevenOrders() + "order i both both;", 96 + Edge.sevenOrders().length(), 4);
    }

    private static void fourFoes() {
        EDGE.of(4, "8 MEN, 7 ORDERS, 4 FOES at most, numbered from 0 each");
        EDGE.is("count(2)", EDGE.army("foe 0 0;foe 0 0;foe 0 0;foe 0 0;", 4).count(2), 4);
        EDGE.armyFault("foe 0 0;foe 0 0;foe 0 0;foe 0 0;foe 0 0;", 32, 4);
    }

    private static void numberedFromNought() {
        EDGE.of(4, "8 MEN, 7 ORDERS, 4 FOES at most, numbered from 0 each");
        BrowArmy x = EDGE.army(full(), 28);
        for (int m = 0; m < 8; m++) {
            EDGE.isText("report(" + m + ")", Due.reportOf(x, m), (char) ('a' + m) + " idle");
        }
        for (int o = 0; o < 7; o++) {
            EDGE.is("order(" + o + ", 0)", x.order(o, 0), 1 + o / 3);
            EDGE.is("order(" + o + ", 1)", x.order(o, 1), 1 + o % 3);
        }
        x.soot(0);
        EDGE.is("foes(0)", x.foes(0), 3);
    }
}
