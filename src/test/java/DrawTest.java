/** Promises 35 and 36: hours by draws. */
public final class DrawTest {
    private static final Due DUE = new Due();

    public static void main(String[] args) {
        notAsTold();
        eachDraw();
        drawsWithoutOrders();
        drawsOfAManUnderAnother();
        theHourFollows();
        hoursEnd();
        odds();
        DUE.finish();
    }

    private static int next(int seed) {
        return seed * 1103515245 + 12345;
    }

    private static int drawn(int seed, int n) {
        return (seed >>> 8) % n;
    }

    /** A seed by which the first draws of these n are these. */
    private static int seedOf(int... drawsAndNs) {
        for (int seed = -50000; ; seed++) {
            int x = seed;
            boolean fits = true;
            for (int i = 0; i < drawsAndNs.length && fits; i += 2) {
                x = next(x);
                fits = drawn(x, drawsAndNs[i + 1]) == drawsAndNs[i];
            }
            if (fits) {
                return seed;
            }
        }
    }

    private static void notAsTold() {
        BrowArmy x = Due.of("man a 0 0 1;");
        for (int n : new int[] {0, -1, 61, Integer.MIN_VALUE, Integer.MAX_VALUE}) {
            DUE.is("drawn(" + n + ")", x.drawn(n, 1), -1);
        }
        for (int n : new int[] {0, -1, 31, Integer.MIN_VALUE, Integer.MAX_VALUE}) {
            DUE.is("odds(0, " + n + ")", x.odds(0, n, 1), -1);
        }
        DUE.is("odds(-1)", x.odds(-1, 1, 1), -1);
        DUE.is("odds(1)", x.odds(1, 1, 1), -1);
        DUE.is("now(0)", x.now(0), 0);
    }

    private static void eachDraw() {
        String army = "man a 5 5 9;man b 5 6 9;under b a;order o left left;order p right both;";
        // a lifts, b does nothing
        for (int lift = 1; lift <= 3; lift++) {
            BrowArmy x = Due.of(army);
            DUE.is("drawn(1)", x.drawn(1, seedOf(0, 8, lift - 1, 3, 7, 8)), 1);
            DUE.is("man(1, 5)", x.man(1, 5), lift);
            DUE.is("now(6)", x.now(6), 1);
            DUE.is("now(0)", x.now(0), 1);
        }
        BrowArmy sleeper = Due.of(army);
        sleeper.drawn(1, seedOf(1, 8, 4, 8));
        DUE.is("now(1) sleeps", sleeper.now(1), 1);
        sleeper.drawn(1, seedOf(1, 8, 1, 8));
        DUE.is("now(1) wakes, sleeps", sleeper.now(1), 2);
        int[] xs = {6, 5, 4, 5};
        int[] ys = {5, 6, 5, 4};
        for (int side = 0; side < 4; side++) {
            BrowArmy x = Due.of(army);
            x.drawn(1, seedOf(2, 8, side, 4, 5, 8));
            DUE.is("man(0, 0)", x.man(0, 0), xs[side]);
            DUE.is("man(0, 1)", x.man(0, 1), ys[side]);
        }
        for (int o = 0; o < 2; o++) {
            BrowArmy x = Due.of(army);
            x.drawn(1, seedOf(3, 8, o, 2, 6, 8));
            DUE.is("man(1, 6)", x.man(1, 6), o);
            // it came before the hour, so it has been passed on
            DUE.is("now(4)", x.now(4), 0);
            DUE.is("now(6)", x.now(6), 4);
        }
    }

    private static void drawsWithoutOrders() {
        BrowArmy x = Due.of("man a 5 5 9;man b 5 6 9;");
        x.drawn(1, seedOf(3, 8, 1, 8));
        DUE.is("now(1), no draw between", x.now(1), 2);
        DUE.is("now(6)", x.now(6), 0);
    }

    private static void drawsOfAManUnderAnother() {
        BrowArmy x = Due.of("man b 5 6 9;man a 5 5 9;man c 5 5 9;under b a;under c b;"
            + "order o left left;order p right both;order q both left;");
        x.drawn(1, seedOf(3, 8, 2, 3, 7, 8, 1, 8));
        DUE.is("now(1), a draw between", x.now(1), 4);
        DUE.is("now(3), he does not give it", x.now(3), 0);
        DUE.is("now(6)", x.now(6), 0);
    }

    private static void theHourFollows() {
        BrowArmy x = Due.of("man a 0 0 0;man b 0 0 0;order o left left;rain 1;");
        x.soot(0);
        // no brow, no cell: each, if he can; the draws are the same
        x.drawn(1, seedOf(0, 8, 1, 3, 2, 8, 3, 4));
        DUE.is("now(6), he was sooted", x.now(6), 1);
        DUE.is("now(2)", x.now(2), 0);
        x.drawn(1, seedOf(0, 8, 1, 3, 1, 8));
        DUE.is("now(6)", x.now(6), 1);
        DUE.is("now(1)", x.now(1), 2);
        DUE.is("undo()", x.undo(), 2);
        DUE.is("now(1)", x.now(1), 0);
        DUE.is("now(0)", x.now(0), 1);
    }

    private static void hoursEnd() {
        BrowArmy x = Due.of("man a 5 5 0;");
        for (int i = 0; i < 6; i++) {
            DUE.is("drawn(60)", x.drawn(60, i), 60);
        }
        DUE.is("drawn(60) at 360", x.drawn(60, 9), 40);
        DUE.is("drawn(1) at 400", x.drawn(1, 9), 0);
        DUE.is("undo()", x.undo(), 6);
        DUE.is("now(0)", x.now(0), 360);
    }

    private static void odds() {
        String army = "man a 0 0 9;man b 1 1 9;man c 2 2 9;under b a;under c b;order o left left;order p left both;";
        BrowArmy x = Due.of(army);
        int seed = Integer.MAX_VALUE - 7;
        for (int m = 0; m < 3; m++) {
            int due = 0;
            for (int i = 0; i < 30; i++) {
                BrowArmy each = Due.of(army);
                each.drawn(20, seed + i);
                due += each.man(m, 6) == -1 ? 0 : 1;
            }
            DUE.is("odds(" + m + ", 30)", x.odds(m, 30, seed), due);
        }
        int one = 0;
        for (int i = 0; i < 40; i++) {
            BrowArmy each = Due.of(army);
            each.drawn(20, i);
            int has = each.man(2, 6) == -1 ? 0 : 1;
            one += has;
            DUE.is("odds(2, 1, " + i + ")", x.odds(2, 1, i), has);
        }
        DUE.is("some and not all", one > 0 && one < 40, true);
        DUE.is("odds(0), who is under nobody", x.odds(0, 30, 5), 0);
        DUE.is("now(0)", x.now(0), 0);
        DUE.is("now(6)", x.now(6), 0);
        DUE.is("undo()", x.undo(), -1);
        for (int i = 0; i < 7; i++) {
            x.hours(60);
        }
        DUE.is("odds(1) at 400", x.odds(1, 30, 5), 0);
        x.give(0, 0);
        DUE.is("odds(1) at 400, who has one", x.odds(1, 30, 5), 30);
    }
}
