/** Promises 1 to 5 and 43: a new object, the tape, an army's text and its faults. */
public final class TextTest {
    private static final Due DUE = new Due();

    public static void main(String[] args) {
        newObject();
        feedAndEnd();
        armyIsTold();
        tokens();
        whatCannotCome();
        numbers();
        names();
        underWhom();
        ordersTwice();
        tooMany();
        tooLong();
        aFaultLeavesTheArmy();
        aNewArmyBeginsAnew();
        DUE.finish();
    }

    private static void fault(String text, int place, int kind) {
        BrowArmy x = new BrowArmy();
        DUE.is("army() of '" + text + "'", Due.army(x, text), -1 - place);
        DUE.is("fault() of '" + text + "'", x.fault(), kind);
        DUE.is("count(5) behind '" + text + "'", x.count(5), 0);
    }

    private static void good(String text, int lines) {
        BrowArmy x = new BrowArmy();
        DUE.is("army() of '" + text + "'", Due.army(x, text), lines);
        DUE.is("fault() of '" + text + "'", x.fault(), 0);
        DUE.is("count(5) behind '" + text + "'", x.count(5), 0);
    }

    private static void newObject() {
        BrowArmy x = new BrowArmy();
        int[] counts = {0, 0, 0, 2, 6, 0};
        for (int what = 0; what < counts.length; what++) {
            DUE.is("new count(" + what + ")", x.count(what), counts[what]);
        }
        DUE.is("count(6)", x.count(6), -1);
        DUE.is("count(-1)", x.count(-1), -1);
        DUE.is("new fault()", x.fault(), 0);
        DUE.noMan(x, 0, 0);
        DUE.is("new unrest()", x.unrest(), 0);
        DUE.is("new code()", x.code(), 5);
    }

    private static void feedAndEnd() {
        BrowArmy x = new BrowArmy();
        DUE.is("end(0) of an empty tape", x.end(0), true);
        DUE.is("end(1) of an empty tape", x.end(1), false);
        for (int n = 1; n <= 47; n++) {
            DUE.is("feed " + n, x.feed(-1, 0, 0, 0, 0), 20 * n);
        }
        DUE.is("feed beyond 940", x.feed(0, 0, 0, 0, 0), -1);
        DUE.is("count(5)", x.count(5), 940);
        DUE.is("end(-1)", x.end(-1), false);
        DUE.is("end(941)", x.end(941), false);
        DUE.is("end(940)", x.end(940), true);
        DUE.is("end(921)", x.end(921), true);
        DUE.is("feed at 921", x.feed(0, 0, 0, 0, 0), -1);
        DUE.is("end(920)", x.end(920), true);
        DUE.is("feed at 920", x.feed(0, 0, 0, 0, 0), 940);
        DUE.is("end(0)", x.end(0), true);
        DUE.is("count(5) then", x.count(5), 0);
        // the highest byte first
        x.feed(('r' << 24) | ('a' << 16) | ('i' << 8) | 'n', (' ' << 24) | ('7' << 16) | (';' << 8), 0, 0, 0);
        x.end(7);
        DUE.is("army() of fed bytes", x.army(), 1);
        DUE.is("count(4)", x.count(4), 7);
    }

    private static void armyIsTold() {
        good("", 0);
        good(" \n ", 0);
        good("man a 0 0 0;", 1);
        good("man a 30 30 9 joined grey;", 1);
        good("man a 1 2 3 grey;man\nb 1 2 3 joined ;", 2);
        good("man a 001 02 3;foe 030 0;", 2);
        BrowArmy x = Due.of("clear 5;rain 30;foe 1 2;foe 1 2;man abcdefg 3 4 5;order o left right;order p right left;"
            + "order q both both;");
        DUE.is("count(0)", x.count(0), 1);
        DUE.is("count(1)", x.count(1), 3);
        DUE.is("count(2)", x.count(2), 2);
        DUE.is("count(3)", x.count(3), 5);
        DUE.is("count(4)", x.count(4), 30);
        DUE.is("order(0, 0)", x.order(0, 0), 1);
        DUE.is("order(0, 1)", x.order(0, 1), 2);
        DUE.is("order(2, 0)", x.order(2, 0), 3);
        DUE.isText("report(0)", Due.reportOf(x, 0), "abcdefg idle");
        // 8 men, 7 orders, 4 foes
        good("man a 0 0 0;man b 0 0 0;man c 0 0 0;man d 0 0 0;man e 0 0 0;man f 0 0 0;man g 0 0 0;man h 0 0 0;"
            + "order i left left;order j left right;order k left both;order l right left;order m right right;"
            + "order n right both;order o both left;foe 0 0;foe 0 0;foe 0 0;foe 0 0;", 19);
    }

    private static void tokens() {
        fault("Man a 0 0 0;", 0, 1);
        fault("man abcdefgh 0 0 0;", 4, 1);
        fault("man a1 0 0 0;", 4, 1);
        fault("man a 0000 0 0;", 6, 1);
        fault("man a 0x 0 0;", 6, 1);
        fault("man a 0 0 0.", 11, 1);
        fault("man\ta 0 0 0;", 3, 1);
        fault("man a 0 0 0;" + (char) 233, 12, 1);
        fault("man a -1 0 0;", 6, 1);
        fault("man a 0 0 0;;", 12, 1);
        fault("man a 0 0 0,", 11, 1);
        good("man a 0 0 0;man b 0 0 0;under a b;", 3);
        fault("mana 0 0 0;", 0, 1);
        // no blanks are needed where signs part tokens
        good("foe 0 0;foe 1 1;rain 6;clear 2;", 4);
    }

    private static void whatCannotCome() {
        fault("man", 3, 1);
        fault("man  ", 5, 1);
        fault("man a 0 0 0", 11, 1);
        fault("a", 0, 1);
        fault("5;", 0, 1);
        fault(";", 0, 1);
        fault("man man 0 0 0;", 4, 1);
        fault("man a b 0 0;", 6, 1);
        fault("man a 0 0 0 grey joined;", 17, 1);
        fault("man a 0 0 0 joined joined;", 19, 1);
        fault("man a 0 0 0 asleep;", 12, 1);
        fault("under man a;", 6, 1);
        fault("under 1 a;", 6, 1);
        fault("order o left;", 12, 1);
        fault("order o left up;", 13, 1);
        fault("order o east left;", 8, 1);
        fault("foe a 1;", 4, 1);
        fault("clear a;", 6, 1);
        fault("hour 3;", 0, 1);
        String[] words = {"man", "joined", "grey", "under", "order", "left", "right", "both", "foe", "clear", "rain",
            "lifts", "gives", "sleeps", "wakes", "soots", "goes", "hour", "east", "south", "west", "north", "or",
            "and", "not", "asleep", "sooted", "idle", "sees", "has", "brow", "heard", "lost", "number"};
        for (String word : words) {
            fault("man " + word + " 0 0 0;", 4, 1);
            fault("order " + word + " left left;", 6, 1);
        }
        good("man sleep 0 0 0;man lift 0 0 0;order give left left;", 3);
    }

    private static void numbers() {
        fault("man a 31 0 0;", 6, 2);
        fault("man a 0 31 0;", 8, 2);
        fault("man a 0 0 10;", 10, 2);
        fault("foe 31 0;", 4, 2);
        fault("foe 30 999;", 7, 2);
        fault("clear 0;", 6, 2);
        fault("clear 6;", 6, 2);
        fault("rain 0;", 5, 2);
        fault("rain 31;", 5, 2);
        good("clear 1;rain 1;", 2);
    }

    private static void names() {
        fault("man a 0 0 0;man a 0 0 0;", 16, 3);
        fault("order a left left;man a 0 0 0;", 22, 3);
        fault("man a 0 0 0;order a left left;", 18, 3);
        fault("order a left left;order a left both;", 24, 3);
        fault("under a b;", 6, 3);
        fault("man a 0 0 0;under a b;", 20, 3);
        fault("order a left left;under a a;", 24, 3);
        fault("man a 0 0 0;order b left left;under a b;", 38, 3);
        // told behind is not told
        fault("man a 0 0 0;under a b;man b 0 0 0;", 20, 3);
        fault("clear 2;clear 2;", 8, 3);
        fault("rain 6;rain 7;", 7, 3);
        fault("rain 6;clear 1;rain 99;", 15, 3);
    }

    private static void underWhom() {
        String three = "man a 0 0 0;man b 0 0 0;man c 0 0 0;";
        fault(three + "under a a;", 44, 3);
        fault(three + "under a b;under a c;", 52, 3);
        fault(three + "under a b;under b a;", 54, 3);
        fault(three + "under a b;under b c;under c a;", 64, 3);
        good(three + "under a b;under c b;", 5);
        good(three + "under a b;under b c;", 5);
        BrowArmy x = Due.of(three + "under a b;under b c;");
        DUE.is("man(0, 9)", x.man(0, 9), 1);
        DUE.is("man(1, 9)", x.man(1, 9), 2);
        DUE.is("man(2, 9)", x.man(2, 9), -1);
    }

    private static void ordersTwice() {
        fault("order a left both;order b left both;", 31, 3);
        good("order a left both;order b both left;", 2);
    }

    private static void tooMany() {
        StringBuilder men = new StringBuilder();
        for (char c = 'a'; c <= 'h'; c++) {
            men.append("man ").append(c).append(" 0 0 0;");
        }
        // of one token the least; but the ninth line's first word comes ahead of its name
        fault(men + "man a 0 0 0;", men.length(), 4);
        fault(men + "man", men.length(), 4);
        StringBuilder orders = new StringBuilder();
        String[] lifts = {"left left", "left right", "left both", "right left", "right right", "right both", "both left"};
        for (int i = 0; i < lifts.length; i++) {
            orders.append("order ").append((char) ('a' + i)).append(' ').append(lifts[i]).append(';');
        }
        fault(orders + "order z both both;", orders.length(), 4);
        fault("foe 0 0;foe 0 0;foe 0 0;foe 0 0;foe 0 0;", 32, 4);
    }

    private static void tooLong() {
        good(Due.padded("man a 0 0 0;", 900), 1);
        fault(Due.padded("man a 0 0 0;", 901), 900, 1);
        fault(Due.padded("", 940), 900, 1);
        fault(Due.padded("man a 0 0", 901), 900, 1);
        fault(Due.padded("man a 0 0", 900), 900, 1);
        fault(Due.padded("man a 0 31", 930), 8, 2);
        // tokens that begin ahead of it are read whole
        fault(Due.padded("rain 6;", 898) + "clear", 900, 1);
        fault(Due.padded("rain 6;", 898) + "clean", 898, 1);
        fault(Due.padded("rain", 899) + "31", 899, 2);
        fault(Due.padded("rain", 899) + "30", 900, 1);
        fault(Due.padded("rain", 899) + "3000", 899, 1);
        fault(Due.padded("rain 6;", 898) + "rain", 898, 3);
        fault(Due.padded("rain 6;", 900) + "rain", 900, 1);
    }

    private static void aFaultLeavesTheArmy() {
        BrowArmy x = Due.of("man a 1 2 3;order o left left;clear 3;rain 4;foe 5 6;");
        x.soot(0);
        x.hours(1);
        Due.sentence(x, "sooted");
        DUE.is("army() with a fault", Due.army(x, "man b 0 0 0;man b 0 0 0;clear 1;"), -17);
        DUE.is("count(0)", x.count(0), 1);
        DUE.is("count(3)", x.count(3), 3);
        DUE.is("man(0, 0)", x.man(0, 0), 1);
        DUE.is("man(0, 4)", x.man(0, 4), 1);
        DUE.is("now(0)", x.now(0), 1);
        DUE.is("said(-1)", x.said(-1), 1);
        DUE.is("undo()", x.undo(), 1);
        DUE.is("fault() is of the latest", x.fault(), 3);
        Due.army(x, "");
        DUE.is("fault() of a good one", x.fault(), 0);
        DUE.is("count(0) of a good one", x.count(0), 0);
        DUE.is("count(3) untold", x.count(3), 2);
        DUE.is("count(4) untold", x.count(4), 6);
    }

    private static void aNewArmyBeginsAnew() {
        BrowArmy x = Due.of("man a 0 0 9;man b 0 1 9;under b a;order o left left;");
        x.lift(0, 1);
        x.lift(0, 2);
        x.give(0, 0);
        x.lift(0, 3);
        x.sleep(1);
        x.soot(1);
        x.go(1, 0);
        x.hours(2);
        Due.sentence(x, "asleep");
        DUE.is("army()", Due.army(x, "man a 0 0 9;man b 0 1 9;"), 2);
        for (int what = 0; what <= 6; what++) {
            DUE.is("now(" + what + ")", x.now(what), 0);
        }
        int[] of = {0, 1, 9, 0, 0, 0, -1, 0, 0, -1};
        for (int what = 0; what < of.length; what++) {
            DUE.is("man(1, " + what + ")", x.man(1, what), of[what]);
        }
        DUE.is("said(-1)", x.said(-1), -1);
        DUE.is("undo()", x.undo(), -1);
        // nobody is joined or grey, and there are no foes, because an army ahead of it had them
        BrowArmy y = Due.of("man a 0 0 9;man b 0 1 9 joined grey;under b a;order o left left;order p both both;foe 0 0;");
        y.give(0, 0);
        Due.army(y, "man a 0 0 9;man b 0 1 9;under b a;order o left left;order p both both;");
        DUE.is("count(2)", y.count(2), 0);
        DUE.is("foes(0)", y.foes(0), 0);
        DUE.is("now(4)", y.now(4), 0);
        Due.sentence(y, "joined or grey");
        DUE.is("said(-1)", y.said(-1), 0);
        y.give(0, 0);
        y.give(0, 1);
        DUE.is("man(1, 6)", y.man(1, 6), 1);
    }
}
