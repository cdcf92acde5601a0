/** Promises 6 to 16: what is so, acts, hours, and acts undone. */
public final class ActsTest {
    private static final Due DUE = new Due();
    /** a sees nobody's need: b and c are under him, d is under b; e has no brow. */
    private static final String FIVE = "man a 5 5 9;man b 7 5 4;man c 5 8 2 joined;man d 9 5 1;man e 6 6 0 grey;"
        + "under b a;under c a;under d b;under e a;"
        + "order go left both;order halt left left;order turn right both;clear 1;rain 3;";

    public static void main(String[] args) {
        noSuchOnes();
        manAtFirst();
        liftIsHeard();
        liftIsMistaken();
        joinedHasOne();
        giveIsHeard();
        aThirdLiftBeforeGiving();
        asleepReadNothing();
        sleepAndWake();
        sootTillRain();
        goAbout();
        hoursPassOrders();
        whatComesInAnHourWaits();
        browOfNoneHasPassedItOn();
        sleepersPassOn();
        hoursEnd();
        lostHasAnEnd();
        undoEach();
        undoEight();
        undoLeavesWhatWasNotDone();
        DUE.finish();
    }

    private static void noSuchOnes() {
        BrowArmy x = Due.of(FIVE);
        for (int m : new int[] {-1, 5, 8, Integer.MIN_VALUE, Integer.MAX_VALUE}) {
            DUE.noMan(x, m, 0);
            DUE.is("lift", x.lift(m, 1), -1);
            DUE.is("give", x.give(m, 0), -1);
            DUE.is("sleep", x.sleep(m), -1);
            DUE.is("wake", x.wake(m), -1);
            DUE.is("soot", x.soot(m), -1);
            DUE.is("go", x.go(m, 0), -1);
        }
        for (int what : new int[] {-1, 10, Integer.MIN_VALUE, Integer.MAX_VALUE}) {
            DUE.noMan(x, 0, what);
            DUE.is("now", x.now(what == 10 ? 7 : what), -1);
            DUE.is("order", x.order(0, what == 10 ? 3 : what), -1);
        }
        DUE.is("order(-1, 0)", x.order(-1, 0), -1);
        DUE.is("order(3, 0)", x.order(3, 0), -1);
        DUE.is("lift(0, 0)", x.lift(0, 0), -1);
        DUE.is("lift(0, 4)", x.lift(0, 4), -1);
        DUE.is("give(0, -1)", x.give(0, -1), -1);
        DUE.is("give(0, 3)", x.give(0, 3), -1);
        DUE.is("go(0, -1)", x.go(0, -1), -1);
        DUE.is("go(0, 4)", x.go(0, 4), -1);
        DUE.is("hours(0)", x.hours(0), -1);
        DUE.is("hours(61)", x.hours(61), -1);
        DUE.is("hours(-1)", x.hours(-1), -1);
        DUE.is("undo()", x.undo(), -1);
    }

    private static void of(BrowArmy x, int m, int... wants) {
        for (int what = 0; what < wants.length; what++) {
            DUE.is("man(" + m + ", " + what + ")", x.man(m, what), wants[what]);
        }
    }

    private static void now(BrowArmy x, int... wants) {
        for (int what = 0; what < wants.length; what++) {
            DUE.is("now(" + what + ")", x.now(what), wants[what]);
        }
    }

    private static void manAtFirst() {
        BrowArmy x = Due.of(FIVE);
        of(x, 0, 5, 5, 9, 0, 0, 0, -1, 0, 0, -1);
        of(x, 3, 9, 5, 1, 0, 0, 0, -1, 0, 0, 1);
        now(x, 0, 0, 0, 0, 0, 0, 0);
    }

    private static void liftIsHeard() {
        BrowArmy x = Due.of(FIVE);
        DUE.is("lift(0, 3)", x.lift(0, 3), 0);
        of(x, 1, 7, 5, 4, 0, 0, 3, -1, 0, 0, 0);
        of(x, 2, 5, 8, 2, 0, 0, 3, -1, 0, 0, 0);
        of(x, 3, 9, 5, 1, 0, 0, 0, -1, 0, 0, 1);
        DUE.is("man(4, 5)", x.man(4, 5), 3);
        now(x, 0, 0, 0, 0, 0, 0, 1);
        DUE.is("lift(4, 1)", x.lift(4, 1), 1);
        DUE.is("now(6) leaves what was not done", x.now(6), 1);
    }

    private static void liftIsMistaken() {
        BrowArmy x = Due.of(FIVE);
        x.lift(0, 1);
        DUE.is("lift(0, 2)", x.lift(0, 2), 0);
        of(x, 1, 7, 5, 4, 0, 0, 0, -1, 0, 1, 0);
        now(x, 0, 0, 0, 0, 0, 3, 2);
        // the same two lifts the other way round are another order, or none
        x.lift(0, 3);
        x.lift(0, 1);
        DUE.is("man(1, 8)", x.man(1, 8), 2);
        DUE.is("now(5)", x.now(5), 6);
        x.lift(0, 2);
        x.lift(0, 3);
        of(x, 1, 7, 5, 4, 0, 0, 0, 2, 1, 2, 0);
    }

    private static void joinedHasOne() {
        BrowArmy x = Due.of(FIVE);
        x.give(0, 1);
        x.give(0, 0);
        DUE.is("man(1, 6)", x.man(1, 6), 0);
        DUE.is("man(2, 6) joined", x.man(2, 6), 1);
        DUE.is("order(0, 2)", x.order(0, 2), 18);
        DUE.is("order(1, 2)", x.order(1, 2), 4);
        x.lift(0, 1);
        DUE.is("man(1, 5)", x.man(1, 5), 1);
        DUE.is("man(2, 5) joined", x.man(2, 5), 0);
    }

    private static void giveIsHeard() {
        BrowArmy x = Due.of(FIVE);
        DUE.is("give(0, 2)", x.give(0, 2), 0);
        of(x, 1, 7, 5, 4, 0, 0, 0, 2, 1, 0, 0);
        of(x, 0, 5, 5, 9, 0, 0, 0, -1, 0, 0, -1);
        now(x, 0, 0, 0, 22, 22, 0, 2);
        DUE.is("order(2, 2)", x.order(2, 2), 22);
        DUE.is("give(4, 0)", x.give(4, 0), 1);
        DUE.is("give(3, 0), whom nobody reads", x.give(3, 0), 0);
        DUE.is("now(6)", x.now(6), 4);
    }

    private static void aThirdLiftBeforeGiving() {
        BrowArmy x = Due.of(FIVE);
        x.lift(0, 2);
        x.give(0, 0);
        // right, left: lost; both: heard
        of(x, 1, 7, 5, 4, 0, 0, 3, -1, 0, 1, 0);
        x.lift(0, 1);
        x.lift(0, 1);
        of(x, 1, 7, 5, 4, 0, 0, 1, -1, 0, 2, 0);
        x.give(0, 1);
        of(x, 1, 7, 5, 4, 0, 0, 1, 1, 1, 2, 0);
    }

    private static void asleepReadNothing() {
        BrowArmy x = Due.of(FIVE);
        x.sleep(1);
        x.give(0, 0);
        DUE.is("now(3)", x.now(3), 20);
        x.wake(1);
        x.lift(0, 1);
        x.sleep(1);
        x.lift(0, 3);
        DUE.is("man(1, 5)", x.man(1, 5), 1);
        DUE.is("man(4, 5)", x.man(4, 5), 0);
    }

    private static void sleepAndWake() {
        BrowArmy x = Due.of(FIVE);
        DUE.is("wake(1)", x.wake(1), 1);
        DUE.is("sleep(1)", x.sleep(1), 0);
        DUE.is("sleep(1) again", x.sleep(1), 1);
        DUE.is("now(1)", x.now(1), 2);
        DUE.is("man(1, 3)", x.man(1, 3), 1);
        DUE.is("sleep(4)", x.sleep(4), 0);
        DUE.is("now(1) of both", x.now(1), 18);
        DUE.is("wake(1)", x.wake(1), 0);
        DUE.is("wake(1) again", x.wake(1), 1);
        DUE.is("now(1) of one", x.now(1), 16);
    }

    private static void sootTillRain() {
        BrowArmy x = Due.of(FIVE);
        DUE.is("soot(0)", x.soot(0), 0);
        DUE.is("man(0, 2) is 9 at most", x.man(0, 2), 9);
        DUE.is("soot(4)", x.soot(4), 0);
        DUE.is("soot(4) again", x.soot(4), 1);
        DUE.is("man(4, 2)", x.man(4, 2), 3);
        DUE.is("man(4, 4)", x.man(4, 4), 1);
        DUE.is("now(2)", x.now(2), 17);
        DUE.is("lift(4, 1) sooted", x.lift(4, 1), 0);
        x.hours(2);
        DUE.is("now(2) at 2", x.now(2), 17);
        x.hours(1);
        DUE.is("now(2) at 3", x.now(2), 0);
        DUE.is("man(4, 2) at 3", x.man(4, 2), 0);
        DUE.is("soot(4) at 3", x.soot(4), 0);
        x.hours(3);
        DUE.is("now(2) at 6", x.now(2), 0);
        BrowArmy each = Due.of("man a 0 0 0;rain 1;");
        each.soot(0);
        each.hours(1);
        DUE.is("rain each hour", each.now(2), 0);
        BrowArmy untold = Due.of("man a 0 0 0;");
        untold.soot(0);
        untold.hours(5);
        DUE.is("no rain at 5", untold.now(2), 1);
        untold.hours(1);
        DUE.is("rain at 6", untold.now(2), 0);
    }

    private static void goAbout() {
        BrowArmy x = Due.of("man a 0 0 1;man b 30 30 1;");
        DUE.is("west of 0", x.go(0, 2), 1);
        DUE.is("north of 0", x.go(0, 3), 1);
        DUE.is("east of 30", x.go(1, 0), 1);
        DUE.is("south of 30", x.go(1, 1), 1);
        DUE.is("east", x.go(0, 0), 0);
        DUE.is("south", x.go(0, 1), 0);
        DUE.is("south", x.go(0, 1), 0);
        of(x, 0, 1, 2);
        DUE.is("west", x.go(1, 2), 0);
        DUE.is("north", x.go(1, 3), 0);
        DUE.is("north", x.go(1, 3), 0);
        of(x, 1, 29, 28);
        x.go(1, 0);
        x.go(1, 1);
        x.go(1, 1);
        of(x, 1, 30, 30);
        x.go(0, 2);
        x.go(0, 3);
        x.go(0, 3);
        of(x, 0, 0, 0);
    }

    private static void hoursPassOrders() {
        BrowArmy x = Due.of(FIVE);
        x.give(0, 0);
        now(x, 0, 0, 0, 22, 22, 0, 2);
        DUE.is("hours(1)", x.hours(1), 1);
        // b, c (whom nobody reads) have passed it on, e has no brow
        now(x, 1, 0, 0, 30, 8, 0, 6);
        DUE.is("man(3, 6)", x.man(3, 6), 0);
        DUE.is("man(3, 7)", x.man(3, 7), 1);
        DUE.is("hours(60)", x.hours(60), 60);
        now(x, 61, 0, 0, 30, 0, 0, 8);
    }

    private static void whatComesInAnHourWaits() {
        // a passes on to b within the hour in which b passes on another one
        BrowArmy x = Due.of("man z 0 0 9;man a 0 1 9;man b 0 2 9;man c 0 3 9;under a z;under b a;under c b;"
            + "order p left left;order q right right;");
        x.give(1, 0);
        x.give(0, 1);
        now(x, 0, 0, 0, 6, 6, 0, 4);
        x.hours(1);
        // a gave q to b; b gave p, which he had first, to c, and q is still to be passed on
        DUE.is("man(2, 6)", x.man(2, 6), 1);
        DUE.is("man(2, 7)", x.man(2, 7), 1);
        DUE.is("man(3, 6)", x.man(3, 6), 0);
        now(x, 1, 0, 0, 14, 12, 0, 8);
        x.hours(1);
        DUE.is("man(3, 6) then", x.man(3, 6), 1);
        now(x, 2, 0, 0, 14, 8, 0, 12);
        // one behind in number, too: he has passed on when it comes
        BrowArmy y = Due.of("man b 0 2 9;man a 0 1 9;man c 0 3 9;under b a;under c b;"
            + "order p left left;order q right right;");
        y.give(1, 0);
        y.hours(1);
        y.give(1, 1);
        now(y, 1, 0, 0, 5, 5, 0, 6);
        y.hours(1);
        DUE.is("man(2, 6)", y.man(2, 6), 1);
    }

    private static void browOfNoneHasPassedItOn() {
        BrowArmy x = Due.of("man a 0 0 9;man b 0 0 0;man c 0 0 9;under b a;under c b;order o left left;rain 2;");
        x.give(0, 0);
        DUE.is("now(4)", x.now(4), 2);
        x.hours(1);
        now(x, 1, 0, 0, 2, 0, 0, 2);
        x.soot(1);
        x.hours(1);
        now(x, 2, 0, 0, 2, 0, 0, 2);
    }

    private static void sleepersPassOn() {
        BrowArmy x = Due.of("man a 0 0 9;man b 0 0 9;man c 0 0 9;under b a;under c b;order o left left;");
        x.give(0, 0);
        x.sleep(1);
        x.hours(1);
        DUE.is("now(3)", x.now(3), 6);
        DUE.is("lift(1, 1) asleep", x.lift(1, 1), 0);
    }

    private static void hoursEnd() {
        BrowArmy x = Due.of(FIVE);
        for (int i = 0; i < 6; i++) {
            DUE.is("hours(60)", x.hours(60), 60);
        }
        DUE.is("hours(39)", x.hours(39), 39);
        DUE.is("hours(60) at 399", x.hours(60), 1);
        DUE.is("now(0)", x.now(0), 400);
        DUE.is("hours(1) at 400", x.hours(1), 0);
        DUE.is("give(0, 0) at 400", x.give(0, 0), 0);
        DUE.is("undo() of it", x.undo(), 7);
        DUE.is("undo() of the 400th", x.undo(), 6);
        DUE.is("now(0) undone", x.now(0), 399);
    }

    private static void lostHasAnEnd() {
        BrowArmy x = Due.of("man a 0 0 1;man b 0 0 1;under b a;");
        for (int i = 1; i <= 102; i++) {
            x.lift(0, 1);
            x.lift(0, 1);
            DUE.is("man(1, 8)", x.man(1, 8), Math.min(i, 99));
        }
        DUE.is("now(5)", x.now(5), 99);
        DUE.is("now(6)", x.now(6), 204);
        BrowArmy y = Due.of("man b 0 0 1;man a 0 0 1;under b a;");
        y.lift(1, 1);
        y.lift(1, 2);
        DUE.is("now(5) of the first", y.now(5), 1);
    }

    private static void undoEach() {
        BrowArmy x = Due.of(FIVE);
        x.lift(0, 1);
        x.lift(0, 3);
        DUE.is("undo()", x.undo(), 1);
        of(x, 1, 7, 5, 4, 0, 0, 1, -1, 0, 0, 0);
        now(x, 0, 0, 0, 0, 0, 0, 1);
        DUE.is("undo()", x.undo(), 0);
        DUE.is("now(6)", x.now(6), 0);
        DUE.is("undo() of nothing", x.undo(), -1);
        x.lift(0, 1);
        x.lift(0, 2);
        x.undo();
        DUE.is("man(1, 8)", x.man(1, 8), 0);
        x.undo();
        x.give(0, 0);
        x.soot(1);
        x.hours(3);
        now(x, 3, 0, 0, 30, 0, 0, 8);
        DUE.is("undo() of hours", x.undo(), 2);
        now(x, 0, 0, 2, 22, 22, 0, 2);
        DUE.is("undo() of soot", x.undo(), 1);
        DUE.is("man(1, 4)", x.man(1, 4), 0);
        DUE.is("undo() of give", x.undo(), 0);
        now(x, 0, 0, 0, 0, 0, 0, 0);
        x.sleep(2);
        x.wake(2);
        x.go(2, 3);
        DUE.is("undo() of go", x.undo(), 2);
        of(x, 2, 5, 8, 2, 0);
        DUE.is("undo() of wake", x.undo(), 1);
        DUE.is("man(2, 3)", x.man(2, 3), 1);
        DUE.is("undo() of sleep", x.undo(), 0);
        DUE.is("man(2, 3)", x.man(2, 3), 0);
        x.drawn(20, 7);
        DUE.is("undo() of drawn", x.undo(), 0);
        now(x, 0, 0, 0, 0, 0, 0, 0);
        of(x, 0, 5, 5);
        Due.book(x, 1, "a lifts left;b sleeps;");
        DUE.is("undo() of a book", x.undo(), 0);
        now(x, 0, 0, 0, 0, 0, 0, 0);
    }

    private static void undoEight() {
        BrowArmy x = Due.of("man a 0 0 1;");
        for (int i = 0; i < 11; i++) {
            x.go(0, 0);
        }
        for (int left = 7; left >= 0; left--) {
            DUE.is("undo()", x.undo(), left);
            DUE.is("man(0, 0)", x.man(0, 0), left + 3);
        }
        DUE.is("undo()", x.undo(), -1);
        DUE.is("man(0, 0)", x.man(0, 0), 3);
        x.go(0, 1);
        DUE.is("undo()", x.undo(), 0);
    }

    private static void undoLeavesWhatWasNotDone() {
        BrowArmy x = Due.of("man a 0 0 0;order o left left;");
        x.go(0, 2);
        x.lift(0, 1);
        x.give(0, 0);
        x.wake(0);
        x.hours(0);
        x.hours(61);
        x.drawn(0, 1);
        Due.book(x, 0, "a sleeps;");
        Due.book(x, 1, "a wakes;a sleeps;");
        Due.book(x, 1, "");
        x.reach(0, 0);
        x.odds(0, 3, 3);
        DUE.is("undo()", x.undo(), -1);
        x.soot(0);
        x.soot(0);
        DUE.is("undo() of soot", x.undo(), 0);
        x.sleep(0);
        x.sleep(0);
        DUE.is("undo() of sleep", x.undo(), 0);
    }
}
