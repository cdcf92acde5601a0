/** Promises 37 and 38: books, judged or lived line by line. */
public final class BookTest {
    private static final Due DUE = new Due();
    private static final String ARMY = "man a 0 0 9;man b 0 1 9;man c 0 2 0;under b a;under c b;"
        + "order o left right;order p both both;";

    public static void main(String[] args) {
        otherLives();
        faults();
        tooLong();
        tooManyLines();
        judged();
        lived();
        everyWhy();
        fewerHours();
        aFaultLeavesWhatWasTold();
        undoneWhole();
        DUE.finish();
    }

    private static void fault(String text, int place, int kind) {
        BrowArmy x = Due.of(ARMY);
        for (int lives = 0; lives <= 1; lives++) {
            DUE.is("book(" + lives + ") of '" + text + "'", Due.book(x, lives, text), -2 - place);
            DUE.is("fault() of '" + text + "'", x.fault(), kind);
            DUE.is("count(5) behind '" + text + "'", x.count(5), 0);
            DUE.is("told(0) behind '" + text + "'", x.told(0), -1);
            DUE.is("undo() behind '" + text + "'", x.undo(), -1);
        }
    }

    private static void told(BrowArmy x, int... wants) {
        for (int what = 0; what < wants.length; what++) {
            DUE.is("told(" + what + ")", x.told(what), wants[what]);
        }
        DUE.is("told(4)", x.told(4), -1);
        DUE.is("told(-1)", x.told(-1), -1);
    }

    private static void otherLives() {
        BrowArmy x = Due.of(ARMY);
        told(x, -1, -1, -1, -1);
        Due.book(x, 0, "hour 61;");
        Due.lay(x, "a sleeps;");
        DUE.is("book(2)", x.book(2), -1000);
        DUE.is("book(-1)", x.book(-1), -1000);
        DUE.is("fault() stays", x.fault(), 2);
        DUE.is("told(0) stays", x.told(0), -1);
        DUE.is("count(5) stays", x.count(5), 9);
        DUE.is("book(1)", x.book(1), -1);
        DUE.is("fault()", x.fault(), 0);
        DUE.is("now(1)", x.now(1), 1);
    }

    private static void faults() {
        fault("a", 1, 1);
        fault("a;", 1, 1);
        fault("a sleeps", 8, 1);
        fault("a sleeps;;", 9, 1);
        fault("a sleeps wakes;", 9, 1);
        fault("a asleep;", 2, 1);
        fault("a lifts;", 7, 1);
        fault("a lifts up;", 8, 1);
        fault("a lifts o;", 8, 1);
        fault("a lifts east;", 8, 1);
        fault("a goes left;", 7, 1);
        fault("a gives left;", 8, 1);
        fault("a gives 1;", 8, 1);
        fault("hour a;", 5, 1);
        fault("man a 0 0 0;", 0, 1);
        fault("5 sleeps;", 0, 1);
        fault("(a sleeps);", 0, 1);
        fault("hour 0;", 5, 2);
        fault("hour 61;", 5, 2);
        fault("hour 0060;", 5, 1);
        fault("x sleeps;", 0, 3);
        fault("o sleeps;", 0, 3);
        fault("a gives x;", 8, 3);
        fault("a gives b;", 8, 3);
        fault("a sleeps;b wakes;hour 3;c gives o;d wakes;", 34, 3);
    }

    private static void tooLong() {
        BrowArmy x = Due.of(ARMY);
        DUE.is("book(0) of 400", Due.book(x, 0, Due.padded("a sleeps;", 400)), -1);
        fault(Due.padded("", 401), 400, 1);
        fault(Due.padded("a sleeps;", 401), 400, 1);
        fault(Due.padded("a wake;", 500), 2, 1);
        fault(Due.padded("", 398) + "a sleeps;", 400, 1);
        fault(Due.padded("", 399) + "a sleeps;", 400, 1);
        fault(Due.padded("", 399) + "aa sleeps;", 399, 3);
        fault(Due.padded("a ", 399) + "sleeps;", 400, 1);
        fault(Due.padded("a ", 399) + "sleep;", 399, 1);
        fault(Due.padded("hour", 399) + "61;", 399, 2);
        fault(Due.padded("a gives", 399) + "op", 399, 3);
    }

    private static void tooManyLines() {
        String forty = "hour 1;".repeat(40);
        BrowArmy x = Due.of(ARMY);
        DUE.is("book(1) of 40", Due.book(x, 1, forty), -1);
        told(x, 0, 40, 40, 0);
        fault(forty + "hour 1;", 280, 4);
        fault(forty + " hour 99;", 281, 4);
        fault(forty + "a", 280, 4);
        fault(forty + "x", 280, 3);
        fault(forty + "o", 280, 3);
        fault(forty + "sleeps", 280, 1);
        fault(forty + ";", 280, 1);
    }

    private static void judged() {
        BrowArmy x = Due.of(ARMY);
        DUE.is("book(0)", Due.book(x, 0, "a gives o;hour 1;b sleeps;a goes west;b wakes;"), 3);
        told(x, 51, 3, 1, 6);
        DUE.is("now(0)", x.now(0), 0);
        DUE.is("now(1)", x.now(1), 0);
        DUE.is("now(3)", x.now(3), 0);
        DUE.is("now(6)", x.now(6), 0);
        DUE.is("undo()", x.undo(), -1);
        DUE.is("book(0) without a wrong line", Due.book(x, 0, "a gives o;hour 60;"), -1);
        told(x, 0, 2, 60, 6);
        DUE.is("book(0) of nothing", Due.book(x, 0, ""), -1);
        told(x, 0, 0, 0, 0);
    }

    private static void lived() {
        BrowArmy x = Due.of(ARMY);
        DUE.is("book(1)", Due.book(x, 1, "a lifts left;a lifts right;hour 1;b sleeps;c soots;c goes east;"
            + "c goes south;c wakes;c sleeps;"), 7);
        told(x, 31, 7, 1, 6);
        DUE.is("now(0)", x.now(0), 1);
        DUE.is("now(1)", x.now(1), 2);
        DUE.is("now(2)", x.now(2), 4);
        DUE.is("now(3)", x.now(3), 6);
        DUE.is("now(6)", x.now(6), 4);
        DUE.is("man(2, 0)", x.man(2, 0), 1);
        DUE.is("man(2, 1)", x.man(2, 1), 3);
        DUE.is("man(2, 6)", x.man(2, 6), 0);
        DUE.is("undo()", x.undo(), 0);
        DUE.is("told(2) stays", x.told(2), 1);
        DUE.is("book(1) goes all sides", Due.book(x, 1, "b goes east;b goes south;b goes west;b goes north;b gives p;"
            + "a lifts both;b sleeps;b wakes;"), -1);
        DUE.is("man(1, 0)", x.man(1, 0), 0);
        DUE.is("man(1, 1)", x.man(1, 1), 1);
        DUE.is("man(2, 6)", x.man(2, 6), 1);
        DUE.is("man(1, 5)", x.man(1, 5), 3);
    }

    private static void everyWhy() {
        BrowArmy x = Due.of(ARMY);
        String[] lines = {"c lifts left;", "c gives o;", "a sleeps;a sleeps;", "a wakes;", "a soots;a soots;", "a goes north;"};
        int[] whys = {1, 11, 21, 31, 41, 51};
        int[] wrong = {0, 0, 1, 0, 1, 0};
        for (int i = 0; i < lines.length; i++) {
            DUE.is("book(0) of '" + lines[i] + "'", Due.book(x, 0, lines[i]), wrong[i]);
            told(x, whys[i], wrong[i], 0, 0);
        }
    }

    private static void fewerHours() {
        BrowArmy x = Due.of(ARMY);
        DUE.is("book(1)", Due.book(x, 1, "hour 60;hour 60;hour 60;hour 60;hour 60;hour 60;hour 41;hour 1;"), 6);
        told(x, 61, 6, 360, 0);
        DUE.is("now(0), the wrong line is not lived", x.now(0), 360);
        DUE.is("book(1) to the end", Due.book(x, 1, "hour 40;a gives o;hour 1;"), 2);
        told(x, 61, 2, 400, 2);
        DUE.is("now(0)", x.now(0), 400);
    }

    private static void aFaultLeavesWhatWasTold() {
        BrowArmy x = Due.of(ARMY);
        Due.book(x, 0, "a gives o;hour 5;a wakes;");
        Due.book(x, 0, "a gives q;");
        Due.lay(x, "a sleeps;");
        x.book(7);
        told(x, 31, 2, 5, 6);
        x.end(0);
        Due.army(x, "");
        told(x, 31, 2, 5, 6);
    }

    private static void undoneWhole() {
        BrowArmy x = Due.of(ARMY);
        x.sleep(0);
        Due.book(x, 1, "a wakes;b soots;hour 2;b soots;");
        DUE.is("now(0)", x.now(0), 2);
        DUE.is("undo()", x.undo(), 1);
        DUE.is("now(0)", x.now(0), 0);
        DUE.is("now(1)", x.now(1), 1);
        DUE.is("now(2)", x.now(2), 0);
        Due.book(x, 1, "a sleeps;b sleeps;");
        DUE.is("undo() of what was ahead of a book not lived", x.undo(), 0);
        DUE.is("now(1)", x.now(1), 0);
    }
}
