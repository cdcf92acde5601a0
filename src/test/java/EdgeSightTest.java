/** Boundary cases of who sees whom, whom an order reaches, where to stand and to hide (promises 17 to 25 and 32). */
public final class EdgeSightTest {
    private static final Edge EDGE = new Edge();

    public static void main(String[] args) {
        seeing();
        reaching();
        standing();
        EDGE.finish();
    }

    private static void seeing() {
        noFartherThanBrowByClear();
        farByXAndYTogether();
        aBrowOfNoughtNobodySees();
        whoIsAsleepSeesNobody();
        neverHimself();
        whoReads();
        foesSeeLikewise();
        unrestMoreBrow();
    }

    private static void reaching() {
        reachNow();
        reachTwentyHours();
        reachFewerHours();
        reachIsNone();
        soonHowManyHours();
        soonNoFurther();
        soonIsNone();
        bestOfLikeOnes();
        bestIsNone();
    }

    private static void standing() {
        standWhereMostWouldSee();
        standOfLikeOnes();
        standOfNobody();
        standIsNone();
        hideFromAllFoes();
        hideOfLikeOnes();
        hideNowhere();
        cellOfTheLatest();
        cellAheadOfAny();
    }

    // ---- who sees whom

    private static void noFartherThanBrowByClear() {
        EDGE.of(17, "they are not farther from one another than the other one's BROW by 'clear'");
        for (int clear = 1; clear <= 5; clear++) {
            for (int brow = 1; brow <= 9; brow++) {
                int far = brow * clear;
                int x = Math.min(far, 30);
                int y = far - x;
                BrowArmy army = EDGE.army("man a 0 0 " + brow + ";man b " + x + " " + y + " 0;under b a;clear " + clear + ";", 4);
                EDGE.is("sees(1) at " + far, army.sees(1), 1);
                EDGE.is("reads(0) at " + far, army.reads(0), 2);
                EDGE.is("sees(0), whom he does not see", army.sees(0), 0);
                army.go(1, 1);
                EDGE.is("sees(1) one farther", army.sees(1), 0);
                EDGE.is("reads(0) one farther", army.reads(0), 0);
            }
        }
    }

    private static void farByXAndYTogether() {
        EDGE.of(17, "FAR: by X and Y together");
        for (int dx = -4; dx <= 4; dx++) {
            for (int dy = -4; dy <= 4; dy++) {
                BrowArmy x = EDGE.army("man a 15 15 4;man b " + (15 + dx) + " " + (15 + dy) + " 0;clear 1;", 3);
                EDGE.is("sees(1) at " + dx + " " + dy, x.sees(1), Math.abs(dx) + Math.abs(dy) <= 4 ? 1 : 0);
            }
        }
        // the farthest there is, and a brow seen less far than that
        BrowArmy ends = EDGE.army("man a 0 0 9;man b 30 30 9;man c 30 15 9;clear 5;", 4);
        EDGE.is("sees(0)", ends.sees(0), 4);
        EDGE.is("sees(1)", ends.sees(1), 4);
        EDGE.is("sees(2)", ends.sees(2), 3);
    }

    private static void aBrowOfNoughtNobodySees() {
        EDGE.of(17, "(a BROW of 0 nobody SEES)");
        BrowArmy x = EDGE.army("man a 9 9 0;man b 9 9 1;under b a;clear 5;rain 2;", 5);
        EDGE.is("sees(1) in the same cell", x.sees(1), 0);
        EDGE.is("sees(0)", x.sees(0), 2);
        EDGE.is("reads(0)", x.reads(0), 0);
        x.soot(0);
        EDGE.is("sees(1) sooted", x.sees(1), 1);
        EDGE.is("reads(0) sooted", x.reads(0), 2);
        x.hours(2);
        EDGE.is("sees(1) rained", x.sees(1), 0);
    }

    private static void whoIsAsleepSeesNobody() {
        EDGE.of(17, "A MAN SEES another one, if he is not ASLEEP");
        BrowArmy x = EDGE.army("man a 9 9 9;man b 9 9 9;man c 9 9 9;under b a;under c a;", 5);
        EDGE.is("sees(1)", x.sees(1), 5);
        x.sleep(1);
        EDGE.is("sees(1) asleep", x.sees(1), 0);
        EDGE.is("sees(0), one asleep", x.sees(0), 6);
        EDGE.is("reads(0)", x.reads(0), 4);
        x.sleep(0);
        EDGE.is("reads(0), who is asleep", x.reads(0), 4);
        x.wake(1);
        EDGE.is("sees(1) awake", x.sees(1), 5);
    }

    private static void neverHimself() {
        EDGE.of(17, "Whom a MAN SEES, as bits (never himself); NONE: no such one");
        BrowArmy one = EDGE.army("man a 9 9 9;", 1);
        EDGE.is("sees(0) alone", one.sees(0), 0);
        StringBuilder eight = new StringBuilder();
        for (char c = 'a'; c <= 'h'; c++) {
            eight.append("man ").append(c).append(" 9 9 1;");
        }
        BrowArmy x = EDGE.army(eight.toString(), 8);
        for (int m = 0; m < 8; m++) {
            EDGE.is("sees(" + m + ")", x.sees(m), 255 - (1 << m));
        }
        EDGE.is("sees(0) without men", new BrowArmy().sees(0), -1);
        for (int m : Edge.outside(0, 4)) {
            Twins.leaves(EDGE, "sees(" + m + ")", -1, y -> y.sees(m));
        }
    }

    private static void whoReads() {
        EDGE.of(18, "Who READS a MAN, as bits; NONE: no such one");
        // c is over b, d is under nobody
        BrowArmy x = EDGE.army("man a 9 9 9;man b 9 9 9;man c 9 9 9;man d 9 9 9;under b a;under c b;", 6);
        EDGE.is("reads(0)", x.reads(0), 2);
        EDGE.is("reads(1)", x.reads(1), 4);
        EDGE.is("reads(2)", x.reads(2), 0);
        EDGE.is("reads(3)", x.reads(3), 0);
        EDGE.is("reads(0) without men", new BrowArmy().reads(0), -1);
        EDGE.of(18, "He READS whom he is UNDER, if he SEES him");
        x.sleep(2);
        EDGE.is("reads(1), he is asleep", x.reads(1), 0);
        x.wake(2);
        for (int n = 0; n < 18; n++) {
            x.go(2, n < 9 ? 0 : 1);
            EDGE.is("reads(1), near enough", x.reads(1), 4);
        }
        x.go(2, 1);
        EDGE.is("reads(1), too far", x.reads(1), 0);
        EDGE.is("sees(2), too far", x.sees(2), 0);
        for (int m : Edge.outside(0, 4)) {
            Twins.leaves(EDGE, "reads(" + m + ")", -1, y -> y.reads(m));
        }
    }

    private static void foesSeeLikewise() {
        EDGE.of(19, "A FOE sees a MAN likewise");
        BrowArmy x = EDGE.army("man a 10 10 2;foe 14 10;foe 10 6;foe 12 13;foe 10 10;clear 2;", 6);
        EDGE.is("foes(0)", x.foes(0), 11);
        x.go(0, 0);
        EDGE.is("foes(0) to the east", x.foes(0), 13);
        x.go(0, 3);
        EDGE.is("foes(0) to the north", x.foes(0), 11);
        x.sleep(0);
        EDGE.is("foes(0), who is asleep", x.foes(0), 11);
        BrowArmy bare = EDGE.army("man a 10 10 0;foe 10 10;", 2);
        EDGE.is("foes(0) of a brow of 0", bare.foes(0), 0);
        bare.soot(0);
        EDGE.is("foes(0) sooted", bare.foes(0), 1);
        EDGE.of(19, "FOES that see a MAN, as bits; NONE: no such one");
        EDGE.is("foes(0) without foes", EDGE.army("man a 10 10 9;", 1).foes(0), 0);
        EDGE.is("foes(0) without men", EDGE.army("foe 1 1;", 1).foes(0), -1);
        for (int m : Edge.outside(0, 4)) {
            Twins.leaves(EDGE, "foes(" + m + ")", -1, y -> y.foes(m));
        }
    }

    private static void unrestMoreBrow() {
        EDGE.of(32, "UNREST: MEN who have more BROW, with soot, than whom they are UNDER");
        EDGE.is("unrest() without men", new BrowArmy().unrest(), 0);
        BrowArmy x = EDGE.army("man a 0 0 5;man b 0 0 4;man c 0 0 5;man d 0 0 6;man e 0 0 9;under b a;under c a;under d a;rain 9;", 9);
        EDGE.is("unrest() of less, as much, more", x.unrest(), 8);
        x.soot(0);
        EDGE.is("unrest(), he above is sooted", x.unrest(), 0);
        x.soot(2);
        x.soot(3);
        EDGE.is("unrest(), both sooted", x.unrest(), 8);
        x.hours(9);
        EDGE.is("unrest() rained", x.unrest(), 8);
        // 9 at most
        BrowArmy y = EDGE.army("man a 0 0 7;man b 0 0 8;under b a;", 3);
        EDGE.is("unrest()", y.unrest(), 2);
        y.soot(0);
        y.soot(1);
        EDGE.is("unrest(), 9 each", y.unrest(), 0);
        // the first and the last of eight
        BrowArmy full = EDGE.army("man a 0 0 2;man b 0 0 1;man c 0 0 1;man d 0 0 1;man e 0 0 1;man f 0 0 1;man g 0 0 1;"
            + "man h 0 0 2;under a b;under h b;", 10);
        EDGE.is("unrest()", full.unrest(), 129);
        // by him straight above, not over others
        BrowArmy z = EDGE.army("man a 0 0 3;man b 0 0 9;man c 0 0 5;under b a;under c b;", 5);
        EDGE.is("unrest()", z.unrest(), 2);
    }

    // ---- whom an order reaches

    /** A line of so many men, each under the one ahead of him and two cells off, which is as far as they are seen. */
    private static String line(int men) {
        StringBuilder text = new StringBuilder("order o left right;order p both both;");
        for (int m = 0; m < men; m++) {
            text.append("man ").append((char) ('a' + m)).append(' ').append(2 * m).append(" 0 1;");
        }
        for (int m = 1; m < men; m++) {
            text.append("under ").append((char) ('a' + m)).append(' ').append((char) ('a' + m - 1)).append(';');
        }
        return text.toString();
    }

    private static void reachNow() {
        EDGE.of(20, "REACH of a MAN and an ORDER: who has that ORDER, if he GIVES it now");
        BrowArmy x = EDGE.army(line(3), 7);
        EDGE.is("reach(0, 0)", x.reach(0, 0), 6);
        EDGE.is("reach(1, 0)", x.reach(1, 0), 4);
        EDGE.is("reach(2, 0)", x.reach(2, 0), 0);
        // who has it already has it, and another one's does not count
        x.give(1, 1);
        EDGE.is("reach(2, 1)", x.reach(2, 1), 4);
        EDGE.is("reach(2, 0)", x.reach(2, 0), 0);
        for (int what = 0; what < 7; what++) {
            EDGE.now(x, what, new int[] {0, 0, 0, 4, 4, 0, 2}[what]);
        }
        EDGE.is("undo() of the giving alone", x.undo(), 0);
    }

    private static void reachTwentyHours() {
        EDGE.of(20, "20 HOURS go by (fewer, if all are over) in which nothing else is done");
        BrowArmy x = EDGE.army(line(8), 17);
        EDGE.is("reach(0, 0) down the longest line", x.reach(0, 0), 254);
        // rain takes the soot off him who would pass it on
        BrowArmy y = EDGE.army("man a 0 0 9;man b 0 0 0;man c 0 0 0;under b a;under c b;order o left left;rain 2;", 7);
        y.soot(1);
        EDGE.is("reach(0, 0) ahead of rain", y.reach(0, 0), 6);
        y.hours(1);
        EDGE.is("reach(0, 0) in the hour before it rains", y.reach(0, 0), 6);
        y.hours(1);
        EDGE.is("reach(0, 0) rained", y.reach(0, 0), 2);
        // what was on its way is passed on, too, in these hours
        BrowArmy z = EDGE.army(line(4), 9);
        z.give(0, 1);
        z.hours(1);
        z.sleep(1);
        EDGE.is("reach(0, 0) of nobody", z.reach(0, 0), 0);
        EDGE.is("reach(0, 1) of who has it in the end", z.reach(0, 1), 14);
    }

    private static void reachFewerHours() {
        EDGE.of(20, "20 HOURS go by (fewer, if all are over) in which nothing else is done");
        BrowArmy x = EDGE.army(line(8), 17);
        Edge.till(x, 394);
        EDGE.is("reach(0, 0) at 394", x.reach(0, 0), 254);
        x.hours(1);
        EDGE.is("reach(0, 0) at 395", x.reach(0, 0), 126);
        x.hours(4);
        EDGE.is("reach(0, 0) at 399", x.reach(0, 0), 6);
        x.hours(1);
        EDGE.is("reach(0, 0) at 400", x.reach(0, 0), 2);
        EDGE.now(x, 3, 0);
    }

    private static void reachIsNone() {
        EDGE.of(20, "NONE: his BROW is 0, no such ones");
        BrowArmy x = EDGE.army("man a 0 0 1;man b 0 0 0;under b a;order o left left;", 4);
        EDGE.is("reach(0, 0)", x.reach(0, 0), 2);
        EDGE.is("reach(1, 0)", x.reach(1, 0), -1);
        x.soot(1);
        EDGE.is("reach(1, 0) sooted", x.reach(1, 0), 0);
        for (int m : Edge.outside(0, 4)) {
            Twins.leaves(EDGE, "reach(" + m + ", 0)", -1, y -> y.reach(m, 0));
        }
        for (int o : Edge.outside(0, 2)) {
            Twins.leaves(EDGE, "reach(0, " + o + ")", -1, y -> y.reach(0, o));
        }
        int reached = Twins.rich().reach(0, 0);
        Twins.leaves(EDGE, "reach(0, 0), who can", reached, y -> y.reach(0, 0));
        EDGE.is("reach(0, 0) of a new object", new BrowArmy().reach(0, 0), -1);
    }

    private static void soonHowManyHours() {
        EDGE.of(21, "SOON: how many HOURS go till all who are UNDER him, over others, too, have it at once");
        BrowArmy x = EDGE.army(line(8), 17);
        for (int m = 0; m < 7; m++) {
            EDGE.is("soon(" + m + ", 0)", x.soon(m, 0), 6 - m);
        }
        // the first man is the last of the line
        BrowArmy turned = EDGE.army("order o left left;man b 2 0 1;man a 0 0 1;under b a;", 4);
        EDGE.is("soon(1, 0)", turned.soon(1, 0), 0);
        EDGE.is("stand(1)", turned.stand(1), 1);
        EDGE.is("hide(1)", turned.hide(1), 0);
        turned.sleep(0);
        EDGE.is("soon(1, 0), he is asleep", turned.soon(1, 0), -1);
        EDGE.of(21, "0: they have it as he gives it; nobody is: 0");
        EDGE.is("soon(6, 0), one under him", x.soon(6, 0), 0);
        EDGE.is("soon(7, 0), nobody under him", x.soon(7, 0), 0);
        // at once: b has p again when it comes to c
        BrowArmy y = EDGE.army("man z 0 0 9;man a 0 0 9;man b 0 0 9;man c 0 0 9 joined;under a z;under b a;under c b;"
            + "order o left right;order p both both;", 9);
        y.give(2, 1);
        EDGE.is("soon(1, 0), c is joined and has p", y.soon(1, 0), -1);
        BrowArmy late = EDGE.army("man z 0 0 9;man a 0 0 9;man b 0 0 9;man c 0 0 9;under a z;under b a;under c b;"
            + "order o left right;order p both both;", 9);
        late.give(0, 1);
        // a passes p on behind o, so b has o for one hour alone, and c when b has p
        EDGE.is("soon(1, 0), never at once", late.soon(1, 0), -1);
        EDGE.is("reach(1, 0)", late.reach(1, 0), 0);
    }

    private static void soonNoFurther() {
        EDGE.of(21, "(20 at most, and no further than to HOUR 400;");
        BrowArmy x = EDGE.army(line(8), 17);
        Edge.till(x, 394);
        EDGE.is("soon(0, 0) at 394", x.soon(0, 0), 6);
        x.hours(1);
        EDGE.is("soon(0, 0) at 395", x.soon(0, 0), -1);
        EDGE.is("soon(1, 0) at 395", x.soon(1, 0), 5);
        x.hours(5);
        EDGE.is("soon(5, 0) at 400", x.soon(5, 0), -1);
        EDGE.is("soon(6, 0) at 400", x.soon(6, 0), 0);
        EDGE.is("soon(7, 0) at 400", x.soon(7, 0), 0);
        EDGE.now(x, 0, 400);
        EDGE.now(x, 3, 0);
    }

    private static void soonIsNone() {
        EDGE.of(21, "NONE: not so soon, his BROW is 0, no such ones");
        BrowArmy x = EDGE.army("man a 0 0 1;man b 0 0 0;man c 3 0 0;under b a;under c a;order o left left;", 6);
        EDGE.is("soon(0, 0), one is too far", x.soon(0, 0), -1);
        EDGE.is("soon(1, 0) of a brow of 0, nobody under him", x.soon(1, 0), -1);
        x.go(2, 2);
        EDGE.is("soon(0, 0), near enough", x.soon(0, 0), 0);
        x.sleep(2);
        EDGE.is("soon(0, 0), one is asleep", x.soon(0, 0), -1);
        x.soot(1);
        EDGE.is("soon(1, 0) sooted", x.soon(1, 0), 0);
        for (int m : Edge.outside(0, 4)) {
            Twins.leaves(EDGE, "soon(" + m + ", 0)", -1, y -> y.soon(m, 0));
        }
        for (int o : Edge.outside(0, 2)) {
            Twins.leaves(EDGE, "soon(0, " + o + ")", -1, y -> y.soon(0, o));
        }
        EDGE.is("soon(0, 0) of a new object", new BrowArmy().soon(0, 0), -1);
    }

    private static void bestOfLikeOnes() {
        EDGE.of(22, "BEST: the MAN by whom an ORDER REACHES most (of like ones the first)");
        BrowArmy x = EDGE.army("man a 0 0 1;man b 9 9 1;man c 9 9 1;man d 20 20 1;man e 20 20 1;under c b;under e d;order o left left;", 8);
        EDGE.is("best(0) of b and d", x.best(0), 1);
        x.sleep(2);
        EDGE.is("best(0) of d", x.best(0), 3);
        x.sleep(4);
        EDGE.is("best(0) of all, who reach nobody", x.best(0), 0);
        EDGE.is("best(0) of the last of a line alone", EDGE.army(line(8), 17).best(0), 0);
        int best = Twins.rich().best(0);
        Twins.leaves(EDGE, "best(0)", best, y -> y.best(0));
    }

    private static void bestIsNone() {
        EDGE.of(22, "NONE: nobody has a BROW above 0, no such one");
        BrowArmy x = EDGE.army("man a 0 0 0;man b 0 0 0;under b a;order o left left;order p left both;", 5);
        EDGE.is("best(0)", x.best(0), -1);
        x.soot(1);
        EDGE.is("best(0) sooted", x.best(0), 1);
        EDGE.is("best(1) sooted", x.best(1), 1);
        for (int o : Edge.outside(0, 2)) {
            Twins.leaves(EDGE, "best(" + o + ")", -1, y -> y.best(o));
        }
        EDGE.is("best(0) without men", EDGE.army("order o left left;", 1).best(0), -1);
        EDGE.is("best(0) of a new object", new BrowArmy().best(0), -1);
    }

    // ---- where to stand and to hide

    private static void cell(BrowArmy army, int x, int y) {
        EDGE.is("cell(0)", army.cell(0), x);
        EDGE.is("cell(1)", army.cell(1), y);
    }

    private static void standWhereMostWouldSee() {
        EDGE.of(23, "STAND of a MAN: the cell from which most of those UNDER him (not over others) would see him, ASLEEP or not");
        // b and c are 8 off from one another: he is seen 4 off, between them by both
        BrowArmy x = EDGE.army("man a 0 0 2;man b 10 10 9;man c 18 10 9;man d 0 0 9;under b a;under c a;under d b;clear 2;", 8);
        EDGE.is("stand(0)", x.stand(0), 2);
        cell(x, 14, 10);
        x.sleep(1);
        x.sleep(2);
        EDGE.is("stand(0), both asleep", x.stand(0), 2);
        cell(x, 14, 10);
        x.go(2, 0);
        // now they are 9 off: one alone sees him
        EDGE.is("stand(0)", x.stand(0), 1);
        cell(x, 10, 6);
        x.soot(0);
        EDGE.is("stand(0) sooted", x.stand(0), 2);
        // he is asleep himself
        x.sleep(0);
        EDGE.is("stand(0), who is asleep", x.stand(0), 2);
    }

    private static void standOfLikeOnes() {
        EDGE.of(23, "of like ones the least FAR from where he is, then the least Y, X");
        BrowArmy x = EDGE.army("man a 10 10 1;man b 10 14 1;under b a;clear 1;", 4);
        EDGE.is("stand(0), to the south", x.stand(0), 1);
        cell(x, 10, 13);
        // of those as far the least y: north ahead of west, west ahead of east, both ahead of south
        BrowArmy y = EDGE.army("man a 10 10 1;man n 10 8 1;man w 8 10 1;man e 12 10 1;man s 10 12 1;"
            + "under n a;under w a;under e a;under s a;clear 1;", 10);
        EDGE.is("stand(0), of four", y.stand(0), 1);
        cell(y, 10, 9);
        y.go(1, 3);
        EDGE.is("stand(0), of three", y.stand(0), 1);
        cell(y, 9, 10);
        y.go(2, 2);
        EDGE.is("stand(0), of two", y.stand(0), 1);
        cell(y, 11, 10);
        BrowArmy z = EDGE.army("man a 10 10 1;man w 7 10 1;man e 13 10 1;under w a;under e a;clear 2;", 6);
        EDGE.is("stand(0), west or east", z.stand(0), 1);
        cell(z, 9, 10);
        BrowArmy v = EDGE.army("man a 10 10 1;man n 10 7 1;man s 10 13 1;under n a;under s a;clear 2;", 6);
        EDGE.is("stand(0), north or south", v.stand(0), 1);
        cell(v, 10, 9);
        // a farther one of less y is not taken
        BrowArmy u = EDGE.army("man a 10 10 1;man n 10 0 1;man s 10 13 1;under n a;under s a;clear 2;", 6);
        EDGE.is("stand(0), the nearer one", u.stand(0), 1);
        cell(u, 10, 11);
    }

    private static void standOfNobody() {
        EDGE.of(23, "STAND of a MAN: how many would see him");
        BrowArmy x = EDGE.army("man a 30 30 9;man b 0 0 9;under b a;", 3);
        EDGE.is("stand(1), nobody under him", x.stand(1), 0);
        cell(x, 0, 0);
        BrowArmy bare = EDGE.army("man a 30 30 0;man b 30 30 9;under b a;", 3);
        EDGE.is("stand(0), of a brow of 0", bare.stand(0), 0);
        cell(bare, 30, 30);
        // seven would
        StringBuilder eight = new StringBuilder("man a 0 0 1;");
        for (char c = 'b'; c <= 'h'; c++) {
            eight.append("man ").append(c).append(" 30 30 0;under ").append(c).append(" a;");
        }
        BrowArmy full = EDGE.army(eight + "clear 1;", 16);
        EDGE.is("stand(0), all seven", full.stand(0), 7);
        cell(full, 30, 29);
        EDGE.is("hide(0)", full.hide(0), 59);
        cell(full, 30, 29);
    }

    private static void standIsNone() {
        EDGE.of(23, "how many would see him; NONE: no such one");
        EDGE.is("stand(0) without men", new BrowArmy().stand(0), -1);
        for (int m : Edge.outside(0, 4)) {
            Twins.leaves(EDGE, "stand(" + m + ")", -1, y -> y.stand(m));
        }
    }

    private static void hideFromAllFoes() {
        EDGE.of(24, "HIDE: the cell least FAR from where he is (of like ones the least Y, X) at which no FOE would see him and some one UNDER him would, ASLEEP or not");
        BrowArmy x = EDGE.army("man a 10 10 1;man b 10 12 9;man c 10 10 9;under b a;under c b;foe 10 8;clear 2;", 7);
        EDGE.is("hide(0), the foe is just near enough", x.hide(0), 1);
        cell(x, 10, 11);
        x.go(0, 1);
        EDGE.is("hide(0) where he is", x.hide(0), 0);
        cell(x, 10, 11);
        x.sleep(1);
        x.sleep(0);
        EDGE.is("hide(0), all asleep", x.hide(0), 0);
        // the one under him must be near enough, those over others do not count
        BrowArmy y = EDGE.army("man a 10 10 1;man b 10 13 9;man c 10 10 9;under b a;under c b;clear 2;", 6);
        EDGE.is("hide(0), b is one too far", y.hide(0), 1);
        cell(y, 10, 11);
        y.go(0, 1);
        EDGE.is("hide(0), b is near enough", y.hide(0), 0);
    }

    private static void hideOfLikeOnes() {
        EDGE.of(24, "the cell least FAR from where he is (of like ones the least Y, X)");
        // he is in the foe's cell: the four cells next but one are like ones, and those aslant
        BrowArmy x = EDGE.army("man a 10 10 1;man b 10 10 9;under b a;foe 10 10;clear 1;", 5);
        EDGE.is("hide(0), no cell is seen by b alone", x.hide(0), -1);
        BrowArmy y = EDGE.army("man a 10 10 1;man b 11 10 9;man c 9 10 9;under b a;under c a;foe 10 10;clear 1;", 7);
        EDGE.is("hide(0)", y.hide(0), 2);
        cell(y, 9, 9);
        BrowArmy z = EDGE.army("man a 10 10 1;man b 10 11 9;man c 10 9 9;under b a;under c a;foe 10 10;clear 1;", 7);
        EDGE.is("hide(0)", z.hide(0), 2);
        cell(z, 10, 8);
        BrowArmy east = EDGE.army("man a 10 10 1;man b 12 10 9;under b a;foe 10 10;clear 1;", 5);
        EDGE.is("hide(0), east alone", east.hide(0), 2);
        cell(east, 12, 10);
    }

    private static void hideNowhere() {
        EDGE.of(24, "HIDE of a MAN: how FAR; NONE: nowhere, no such one");
        BrowArmy x = EDGE.army("man a 10 10 0;man b 10 10 9;under b a;", 3);
        EDGE.is("hide(0) of a brow of 0", x.hide(0), -1);
        EDGE.is("hide(1), nobody under him", x.hide(1), -1);
        x.soot(0);
        EDGE.is("hide(0) sooted", x.hide(0), 0);
        // the corners are cells, too
        int[] ends = {0, 30};
        for (int cornerX : ends) {
            for (int cornerY : ends) {
                String men = "man a " + (30 - cornerX) + " " + (30 - cornerY) + " 1;man b " + cornerX + " " + cornerY
                    + " 9;under b a;clear 1;";
                int inX = cornerX == 0 ? 1 : 29;
                int inY = cornerY == 0 ? 1 : 29;
                BrowArmy corner = EDGE.army(men + "foe " + inX + " " + inY + ";", 5);
                EDGE.is("hide(0) in a corner", corner.hide(0), 60);
                cell(corner, cornerX, cornerY);
                EDGE.is("hide(0), a foe there, too", EDGE.army(men + "foe " + inX + " " + inY + ";foe " + cornerX + " "
                    + cornerY + ";", 6).hide(0), -1);
            }
        }
        EDGE.is("hide(0) without men", new BrowArmy().hide(0), -1);
        for (int m : Edge.outside(0, 4)) {
            Twins.leaves(EDGE, "hide(" + m + ")", -1, y -> y.hide(m));
        }
        Twins.leaves(EDGE, "hide(2), nobody under him", -1, y -> y.hide(2));
    }

    private static void cellOfTheLatest() {
        EDGE.of(25, "Of the cell by the latest stand() or hide() that was not NONE: 0 X, 1 Y");
        BrowArmy x = EDGE.army("man a 3 4 1;man b 5 6 1;man c 30 0 0;under b a;", 4);
        x.stand(1);
        cell(x, 5, 6);
        x.hide(0);
        cell(x, 5, 4);
        x.hide(1);
        x.stand(3);
        x.stand(-1);
        x.hide(3);
        cell(x, 5, 4);
        x.stand(2);
        cell(x, 30, 0);
        x.go(2, 2);
        Due.army(x, "");
        x.stand(0);
        cell(x, 30, 0);
    }

    private static void cellAheadOfAny() {
        EDGE.of(25, "NONE for another what, or ahead of any");
        BrowArmy x = EDGE.army("man a 3 4 1;", 1);
        cell(x, -1, -1);
        x.hide(0);
        x.stand(1);
        cell(x, -1, -1);
        x.stand(0);
        cell(x, 3, 4);
        for (int what : Edge.outside(0, 1)) {
            EDGE.is("cell(" + what + ")", x.cell(what), -1);
            Twins.leaves(EDGE, "cell(" + what + ")", -1, y -> y.cell(what));
        }
    }
}
