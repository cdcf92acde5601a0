/** Boundary cases of a BOOK (promises 37 and 38). */
public final class EdgeBookTest {
    private static final Edge EDGE = new Edge();
    private static final String ARMY = "man a 0 0 9;man b 0 1 9;man c 0 2 0;under b a;under c b;"
        + "order o left right;order p both both;";

    public static void main(String[] args) {
        aBookHasFourHundredBytes();
        aBookHasFortyLines();
        aBookMayBeEmpty();
        hourOneToSixty();
        sidesAreNumbered();
        livesNoughtOrOne();
        judgedAllStays();
        livedAsFarAsItIsNotWrong();
        theLineThatIsWrong();
        whyItWasWrong();
        fewerHoursAreLeft();
        linesHourAndWhoHas();
        toldOfTheLatestWithoutAFault();
        toldAheadOfAny();
        placeOfABooksFault();
        EDGE.finish();
    }

    private static void told(BrowArmy x, int... wants) {
        for (int what = 0; what < wants.length; what++) {
            EDGE.is("told(" + what + ")", x.told(what), wants[what]);
        }
    }

    private static void aBookHasFourHundredBytes() {
        EDGE.of(37, "A BOOK is a text of at most 400 bytes");
        BrowArmy x = EDGE.army(ARMY, 7);
        EDGE.book(x, Due.padded("a sleeps;", 400));
        EDGE.book(x, " ".repeat(392) + "a wakes;");
        EDGE.book(x, " ".repeat(400));
        EDGE.bookFault(x, " ".repeat(401), 400, 1);
        EDGE.bookFault(x, Due.padded("a sleeps;", 401), 400, 1);
        EDGE.bookFault(x, " ".repeat(393) + "a wakes;", 400, 1);
        EDGE.now(x, 1, 0);
    }

    private static void aBookHasFortyLines() {
        EDGE.of(37, "{ LINE ; }, 40 at most");
        BrowArmy x = EDGE.army(ARMY, 7);
        EDGE.book(x, "hour 1;".repeat(39));
        told(x, 0, 39, 39, 0);
        EDGE.book(x, "hour 1;".repeat(40));
        told(x, 0, 40, 79, 0);
        EDGE.bookFault(x, "hour 1;".repeat(41), 280, 4);
        EDGE.bookFault(x, "hour 1;".repeat(40) + "a wakes;", 280, 4);
        told(x, 0, 40, 79, 0);
        EDGE.now(x, 0, 79);
    }

    private static void aBookMayBeEmpty() {
        EDGE.of(37, "A BOOK is a text of at most 400 bytes: { LINE ; }");
        BrowArmy x = EDGE.army(ARMY, 7);
        x.hours(3);
        EDGE.is("book(0)", x.book(0), -1);
        told(x, 0, 0, 3, 0);
        EDGE.is("book(1)", x.book(1), -1);
        told(x, 0, 0, 3, 0);
        EDGE.book(x, " \n");
        EDGE.bookFault(x, ";", 0, 1);
        EDGE.bookFault(x, "a sleeps;;", 9, 1);
        EDGE.is("undo() of the hours alone", x.undo(), 0);
        // without men hours alone can be told
        BrowArmy nobody = new BrowArmy();
        EDGE.book(nobody, "hour 60;hour 1;");
        EDGE.now(nobody, 0, 61);
        EDGE.bookFault(nobody, "a sleeps;", 0, 3);
    }

    private static void hourOneToSixty() {
        EDGE.of(37, "'hour' N (1 to 60)");
        BrowArmy x = EDGE.army(ARMY, 7);
        EDGE.book(x, "hour 1;");
        EDGE.now(x, 0, 1);
        EDGE.book(x, "hour 60;");
        EDGE.now(x, 0, 61);
        for (int n : new int[] {0, 61, 62, 100, 999}) {
            EDGE.bookFault(x, "hour " + n + ";", 5, 2);
        }
        EDGE.now(x, 0, 61);
    }

    private static void sidesAreNumbered() {
        EDGE.of(37, "SIDE: 'east', 'south', 'west', 'north', numbered from 0");
        BrowArmy x = EDGE.army("man a 5 5 1;", 1);
        String[] sides = {"east", "south", "west", "north"};
        int[] xs = {6, 6, 5, 5};
        int[] ys = {5, 6, 6, 5};
        for (int side = 0; side < 4; side++) {
            BrowArmy y = EDGE.army("man a 5 5 1;", 1);
            EDGE.book(x, "a goes " + sides[side] + ";");
            EDGE.man(x, 0, 0, xs[side]);
            EDGE.man(x, 0, 1, ys[side]);
            y.go(0, side);
            EDGE.book(y, "a goes " + sides[(side + 2) % 4] + ";");
            EDGE.man(y, 0, 0, 5);
            EDGE.man(y, 0, 1, 5);
        }
        EDGE.bookFault(x, "a goes up;", 7, 1);
        EDGE.bookFault(x, "a goes left;", 7, 1);
        EDGE.bookFault(x, "a goes 0;", 7, 1);
    }

    private static void livesNoughtOrOne() {
        EDGE.of(37, "-1000: another lives (the tape stays)");
        for (int lives : Edge.outside(0, 1)) {
            Twins.leaves(EDGE, "book(" + lives + ")", -1000, x -> x.book(lives));
        }
        BrowArmy x = EDGE.army(ARMY, 7);
        Due.lay(x, "a sleeps;");
        EDGE.is("book(2)", x.book(2), -1000);
        EDGE.is("book(1) of the tape that stayed", x.book(1), -1);
        EDGE.now(x, 1, 1);
    }

    private static void judgedAllStays() {
        EDGE.of(37, "it is judged, all staying as it is (lives 0)");
        BrowArmy x = EDGE.army(ARMY, 7);
        x.lift(0, 1);
        EDGE.is("book(0)", Due.book(x, 0, "a lifts right;a sleeps;c soots;b goes south;hour 3;"), -1);
        told(x, 0, 5, 3, 6);
        int[] now = {0, 0, 0, 0, 0, 0, 1};
        for (int what = 0; what < now.length; what++) {
            EDGE.now(x, what, now[what]);
        }
        EDGE.man(x, 1, 1, 1);
        EDGE.man(x, 1, 5, 1);
        EDGE.is("undo() of the lift", x.undo(), 0);
        EDGE.is("undo()", x.undo(), -1);
    }

    private static void livedAsFarAsItIsNotWrong() {
        EDGE.of(37, "or lived as far as it is not WRONG (1)");
        BrowArmy x = EDGE.army(ARMY, 7);
        EDGE.is("book(1) wrong at once", Due.book(x, 1, "a wakes;a sleeps;"), 0);
        EDGE.now(x, 1, 0);
        EDGE.is("undo() of nothing", x.undo(), -1);
        EDGE.is("book(1) wrong behind one", Due.book(x, 1, "a sleeps;a sleeps;b sleeps;"), 1);
        EDGE.now(x, 1, 1);
        EDGE.is("undo() of one", x.undo(), 0);
        EDGE.now(x, 1, 0);
        EDGE.is("book(1) wrong at last", Due.book(x, 1, "a sleeps;b sleeps;c sleeps;b wakes;c lifts left;"), 4);
        EDGE.now(x, 1, 5);
        EDGE.is("undo() of all its lines", x.undo(), 0);
        EDGE.now(x, 1, 0);
        EDGE.is("book(1) not wrong", Due.book(x, 1, "a sleeps;"), -1);
        EDGE.is("undo()", x.undo(), 0);
    }

    private static void theLineThatIsWrong() {
        EDGE.of(37, "the LINE that is WRONG; NONE: none");
        for (int line = 0; line < 40; line++) {
            BrowArmy x = EDGE.army(ARMY, 7);
            String text = "hour 1;".repeat(line) + "c lifts left;" + (line < 39 ? "c lifts left;" : "");
            EDGE.is("book(0)", Due.book(x, 0, text), line);
            told(x, 1, line, line, 0);
        }
        EDGE.is("book(0)", Due.book(EDGE.army(ARMY, 7), 0, "hour 1;".repeat(40)), -1);
    }

    private static void whyItWasWrong() {
        EDGE.of(38, "0 why it was WRONG (0: it was not; 1 as for lifting, 11 giving, 21 sleeping, 31 waking, 41 sooting, 51 going; 61: fewer HOURS are left)");
        BrowArmy x = EDGE.army(ARMY, 7);
        String[] right = {"c soots;c lifts both;", "c soots;c gives o;", "a sleeps;", "a sleeps;a wakes;", "a soots;",
            "a goes east;a goes south;"};
        String[] wrong = {"c lifts both;", "c gives o;", "a sleeps;a sleeps;", "a wakes;", "a soots;a soots;", "a goes west;"};
        int[] whys = {1, 11, 21, 31, 41, 51};
        for (int i = 0; i < whys.length; i++) {
            EDGE.is("book(0) of '" + right[i] + "'", Due.book(x, 0, right[i]), -1);
            EDGE.is("told(0) of '" + right[i] + "'", x.told(0), 0);
            int line = wrong[i].split(";").length - 1;
            EDGE.is("book(0) of '" + wrong[i] + "'", Due.book(x, 0, wrong[i]), line);
            EDGE.is("told(0) of '" + wrong[i] + "'", x.told(0), whys[i]);
        }
        EDGE.is("book(0) north of 0", Due.book(x, 0, "a goes north;"), 0);
        EDGE.is("told(0)", x.told(0), 51);
        BrowArmy corner = EDGE.army("man a 30 30 1;", 1);
        EDGE.is("book(0) east of 30", Due.book(corner, 0, "a goes east;"), 0);
        EDGE.is("told(0)", corner.told(0), 51);
        EDGE.is("book(0) south of 30", Due.book(corner, 0, "a goes south;"), 0);
        EDGE.is("told(0)", corner.told(0), 51);
    }

    private static void fewerHoursAreLeft() {
        EDGE.of(38, "61: fewer HOURS are left");
        BrowArmy x = EDGE.army(ARMY, 7);
        Edge.till(x, 340);
        EDGE.is("book(0) to 400", Due.book(x, 0, "hour 60;"), -1);
        told(x, 0, 1, 400, 0);
        x.hours(1);
        EDGE.is("book(1) to 401", Due.book(x, 1, "hour 60;hour 1;"), 0);
        told(x, 61, 0, 341, 0);
        EDGE.now(x, 0, 341);
        EDGE.is("book(1) to 400", Due.book(x, 1, "hour 59;"), -1);
        told(x, 0, 1, 400, 0);
        EDGE.is("book(1) at 400", Due.book(x, 1, "a gives o;hour 1;"), 1);
        told(x, 61, 1, 400, 2);
        EDGE.now(x, 0, 400);
    }

    private static void linesHourAndWhoHas() {
        EDGE.of(38, "1 LINES that are not, 2 the HOUR then, 3 who has an ORDER then, as bits");
        String[] books = {"", "c wakes;hour 9;", "a gives o;", "a gives o;hour 1;", "a gives p;hour 1;a wakes;hour 5;b gives o;"};
        int[] wrong = {-1, 0, -1, -1, 2};
        int[][] due = {{0, 0, 3, 0}, {31, 0, 3, 0}, {0, 1, 3, 2}, {0, 2, 4, 6}, {31, 2, 4, 6}};
        for (int i = 0; i < books.length; i++) {
            // judged or lived, it is told of the end
            for (int lives = 0; lives <= 1; lives++) {
                BrowArmy x = EDGE.army(ARMY, 7);
                x.hours(3);
                EDGE.is("book(" + lives + ")", Due.book(x, lives, books[i]), wrong[i]);
                told(x, due[i]);
                EDGE.now(x, 0, lives == 0 ? 3 : due[i][2]);
                EDGE.now(x, 3, lives == 0 ? 0 : due[i][3]);
            }
        }
    }

    private static void toldOfTheLatestWithoutAFault() {
        EDGE.of(38, "Of the latest book() that had no FAULT (and was not -1000)");
        BrowArmy x = EDGE.army(ARMY, 7);
        Due.book(x, 0, "a gives o;hour 5;a wakes;");
        told(x, 31, 2, 5, 6);
        Due.book(x, 1, "a sleeps;hour 61;");
        told(x, 31, 2, 5, 6);
        x.book(2);
        x.book(-1);
        told(x, 31, 2, 5, 6);
        Due.army(x, "man z 0 0 0;");
        told(x, 31, 2, 5, 6);
        x.book(0);
        told(x, 0, 0, 0, 0);
    }

    private static void toldAheadOfAny() {
        EDGE.of(38, "NONE: another what, or ahead of any");
        BrowArmy x = EDGE.army(ARMY, 7);
        told(x, -1, -1, -1, -1);
        Due.book(x, 1, "hour");
        x.book(2);
        told(x, -1, -1, -1, -1);
        Due.book(x, 0, "a gives p;hour 7;c gives o;");
        told(x, 11, 2, 7, 6);
        for (int what : Edge.outside(0, 3)) {
            EDGE.is("told(" + what + ")", x.told(what), -1);
            Twins.leaves(EDGE, "told(" + what + ")", -1, y -> y.told(what));
        }
    }

    private static void placeOfABooksFault() {
        EDGE.of(37, "-2 less the place of a FAULT");
        BrowArmy x = EDGE.army(ARMY, 7);
        EDGE.is("book(1) at 0", Due.book(x, 1, "z sleeps;"), -2);
        EDGE.is("book(1) at 1", Due.book(x, 1, " z sleeps;"), -3);
        EDGE.is("book(1) at 400", Due.book(x, 1, " ".repeat(401)), -402);
        EDGE.is("book(1), lines ahead of it are not lived", Due.book(x, 1, "a sleeps;hour 3;z sleeps;"), -18);
        EDGE.now(x, 0, 0);
        EDGE.now(x, 1, 0);
        for (int lives = 0; lives <= 1; lives++) {
            int given = lives;
            Twins.same(EDGE, "book(" + lives + ") with a fault", y -> {
                y.end(0);
                Due.book(y, given, "a sleeps;hour 3;has e");
            }, y -> {
                y.end(0);
                Due.sentence(y, "e");
            });
        }
    }
}
