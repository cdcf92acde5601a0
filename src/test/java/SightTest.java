/** Promises 17 to 25 and 32: who sees whom, whom an order would reach, where to stand and to hide, unrest. */
public final class SightTest {
    private static final Due DUE = new Due();

    public static void main(String[] args) {
        noSuchOnes();
        seesAsFarAsBrows();
        noBrowIsUnseen();
        foesSee();
        reachAndSoon();
        soonInTwentyHours();
        reachNoFurtherThanTheLastHour();
        soonCountsThoseOverOthers();
        bestOfLikeOnesTheFirst();
        standWhereMostSee();
        hideFromFoes();
        cellOfTheLatest();
        unrestWithSoot();
        DUE.finish();
    }

    private static void noSuchOnes() {
        BrowArmy x = Due.of("man a 0 0 1;man b 0 0 0;under b a;order o left left;");
        for (int m : new int[] {-1, 2, Integer.MIN_VALUE, Integer.MAX_VALUE}) {
            DUE.is("sees", x.sees(m), -1);
            DUE.is("reads", x.reads(m), -1);
            DUE.is("foes", x.foes(m), -1);
            DUE.is("reach", x.reach(m, 0), -1);
            DUE.is("soon", x.soon(m, 0), -1);
            DUE.is("stand", x.stand(m), -1);
            DUE.is("hide", x.hide(m), -1);
        }
        for (int o : new int[] {-1, 1, Integer.MIN_VALUE, Integer.MAX_VALUE}) {
            DUE.is("reach", x.reach(0, o), -1);
            DUE.is("soon", x.soon(0, o), -1);
            DUE.is("best", x.best(o), -1);
        }
        DUE.is("reach of a brow of 0", x.reach(1, 0), -1);
        DUE.is("soon of a brow of 0", x.soon(1, 0), -1);
        DUE.is("cell(0) ahead of any", x.cell(0), -1);
        DUE.is("cell(1) ahead of any", x.cell(1), -1);
    }

    private static void seesAsFarAsBrows() {
        // far by x and y together; clear 2: a is seen 6 off, b 4 off
        BrowArmy x = Due.of("man a 10 10 3;man b 13 13 2;man c 10 14 9;under b a;under c a;");
        DUE.is("sees(0)", x.sees(0), 4);
        DUE.is("sees(1)", x.sees(1), 5);
        DUE.is("sees(2)", x.sees(2), 3);
        DUE.is("reads(0)", x.reads(0), 6);
        DUE.is("reads(1)", x.reads(1), 0);
        x.go(1, 0);
        DUE.is("sees(1) one off", x.sees(1), 4);
        DUE.is("reads(0) one off", x.reads(0), 4);
        x.soot(0);
        DUE.is("reads(0) sooted", x.reads(0), 6);
        x.sleep(2);
        DUE.is("sees(2) asleep", x.sees(2), 0);
        DUE.is("reads(0) without a sleeper", x.reads(0), 2);
        DUE.is("sees(1) of a sleeper", x.sees(1), 5);
        x.sleep(0);
        DUE.is("reads(0), who is asleep", x.reads(0), 2);
    }

    private static void noBrowIsUnseen() {
        BrowArmy x = Due.of("man a 10 10 0;man b 10 10 1;under b a;foe 10 10;");
        DUE.is("sees(1)", x.sees(1), 0);
        DUE.is("sees(0)", x.sees(0), 2);
        DUE.is("reads(0)", x.reads(0), 0);
        DUE.is("foes(0)", x.foes(0), 0);
        DUE.is("foes(1)", x.foes(1), 1);
        DUE.is("hide(0)", x.hide(0), -1);
        DUE.is("stand(0)", x.stand(0), 0);
        x.soot(0);
        DUE.is("sees(1) sooted", x.sees(1), 1);
        DUE.is("foes(0) sooted", x.foes(0), 1);
    }

    private static void foesSee() {
        BrowArmy x = Due.of("man a 10 10 2;foe 10 15;foe 12 8;foe 30 30;foe 10 13;clear 2;");
        DUE.is("foes(0)", x.foes(0), 10);
        x.go(0, 1);
        DUE.is("foes(0) then", x.foes(0), 9);
        x.sleep(0);
        DUE.is("foes(0), who is asleep", x.foes(0), 9);
    }

    private static void reachAndSoon() {
        String line = "man a 0 0 1;man b 2 0 1;man c 4 0 1;man d 6 0 1;under b a;under c b;under d c;"
            + "order o left left;order p right both;";
        BrowArmy x = Due.of(line);
        DUE.is("reach(0, 0)", x.reach(0, 0), 14);
        DUE.is("soon(0, 0)", x.soon(0, 0), 2);
        DUE.is("soon(1, 0)", x.soon(1, 0), 1);
        DUE.is("soon(2, 0)", x.soon(2, 0), 0);
        DUE.is("soon(3, 0), nobody is under him", x.soon(3, 0), 0);
        DUE.is("reach(3, 0)", x.reach(3, 0), 0);
        DUE.is("now(3)", x.now(3), 0);
        DUE.is("now(6)", x.now(6), 0);
        x.give(1, 1);
        // p runs ahead of o
        DUE.is("reach(0, 0) behind p", x.reach(0, 0), 14);
        DUE.is("reach(0, 1) behind p", x.reach(0, 1), 14);
        // who has it already counts, though nothing reaches him
        BrowArmy y = Due.of(line);
        y.give(2, 0);
        DUE.is("reach(3, 0) of who has it", y.reach(3, 0), 8);
        y.sleep(2);
        DUE.is("reach(0, 0) past a sleeper", y.reach(0, 0), 10);
        DUE.is("soon(0, 0) past a sleeper", y.soon(0, 0), -1);
        // a lift that he heard: he mistakes what is given
        BrowArmy z = Due.of(line);
        z.lift(0, 2);
        DUE.is("reach(0, 0) mistaken", z.reach(0, 0), 0);
        DUE.is("soon(0, 0) mistaken", z.soon(0, 0), -1);
    }

    private static void soonInTwentyHours() {
        // two orders at once: all have it in the end
        BrowArmy x = Due.of("man a 0 0 1;man b 2 0 1;man c 4 0 1;under b a;under c b;order o left left;"
            + "order p both both;");
        x.give(1, 1);
        DUE.is("soon(0, 0)", x.soon(0, 0), 1);
        x.hours(1);
        DUE.is("soon(0, 0)", x.soon(0, 0), 1);
        DUE.is("soon(1, 0)", x.soon(1, 0), 0);
    }

    private static void reachNoFurtherThanTheLastHour() {
        BrowArmy x = Due.of("man a 0 0 1;man b 2 0 1;man c 4 0 1;man d 6 0 1;under b a;under c b;under d c;"
            + "order o left left;");
        for (int i = 0; i < 6; i++) {
            x.hours(60);
        }
        x.hours(38);
        DUE.is("soon(0, 0) at 398", x.soon(0, 0), 2);
        DUE.is("reach(0, 0) at 398", x.reach(0, 0), 14);
        x.hours(1);
        DUE.is("soon(0, 0) at 399", x.soon(0, 0), -1);
        DUE.is("reach(0, 0) at 399", x.reach(0, 0), 6);
        x.hours(1);
        DUE.is("soon(2, 0) at 400", x.soon(2, 0), 0);
        DUE.is("soon(1, 0) at 400", x.soon(1, 0), -1);
        DUE.is("reach(0, 0) at 400", x.reach(0, 0), 2);
    }

    private static void soonCountsThoseOverOthers() {
        // c is over b, but sees nobody
        BrowArmy x = Due.of("man a 0 0 1;man b 2 0 1;man c 30 30 9;under b a;under c b;order o left left;");
        DUE.is("soon(0, 0)", x.soon(0, 0), -1);
        DUE.is("reach(0, 0)", x.reach(0, 0), 2);
        // a chain of all eight, the first one at its end
        StringBuilder chain = new StringBuilder("order o left left;");
        for (char c = 'a'; c <= 'h'; c++) {
            chain.append("man ").append(c).append(" 0 0 1;");
        }
        for (char c = 'a'; c < 'h'; c++) {
            chain.append("under ").append(c).append(' ').append((char) (c + 1)).append(';');
        }
        BrowArmy y = Due.of(chain.toString());
        DUE.is("reach(7, 0)", y.reach(7, 0), 127);
        DUE.is("soon(7, 0)", y.soon(7, 0), 6);
        DUE.is("soon(1, 0)", y.soon(1, 0), 0);
        y.sleep(0);
        DUE.is("soon(7, 0) past a sleeper", y.soon(7, 0), -1);
        DUE.is("stand(1)", y.stand(1), 1);
        DUE.is("hide(1)", y.hide(1), 0);
        DUE.is("a told under h again, over others", Due.army(y, chain + "under h a;"), -1 - chain.length() - 8);
        DUE.is("sentence()", Due.sentence(y, "under b"), 1);
        DUE.is("said(0)", y.said(0), 0);
    }

    private static void bestOfLikeOnesTheFirst() {
        BrowArmy x = Due.of("man a 0 0 1;man b 30 30 1;man c 30 30 1;man d 0 0 0;man e 9 9 1;"
            + "under c b;under a d;order o left left;");
        DUE.is("best(0)", x.best(0), 1);
        x.sleep(2);
        DUE.is("best(0) of like ones", x.best(0), 0);
        x.soot(3);
        DUE.is("best(0) sooted", x.best(0), 3);
        BrowArmy none = Due.of("man a 0 0 0;man b 0 0 0;under b a;order o left left;");
        DUE.is("best(0) of no brows", none.best(0), -1);
        BrowArmy later = Due.of("man a 0 0 0;man b 0 0 1;order o left left;");
        DUE.is("best(0) of one brow", later.best(0), 1);
    }

    private static void standWhereMostSee() {
        BrowArmy x = Due.of("man a 15 15 1;man b 10 15 9;man c 20 15 9;man d 14 15 9;under b a;under c a;under d b;clear 4;");
        DUE.is("stand(0)", x.stand(0), 1);
        DUE.is("cell(0)", x.cell(0), 14);
        DUE.is("cell(1)", x.cell(1), 15);
        x.sleep(1);
        x.sleep(2);
        x.soot(0);
        DUE.is("stand(0), sleepers too", x.stand(0), 2);
        DUE.is("cell(0)", x.cell(0), 15);
        DUE.is("cell(1)", x.cell(1), 15);
        DUE.is("stand(3), nobody under him", x.stand(3), 0);
        DUE.is("cell(0)", x.cell(0), 14);
        // of like ones the least y, then x
        BrowArmy y = Due.of("man a 10 10 1;man b 10 13 1;man c 13 10 1;under b a;under c a;clear 2;");
        DUE.is("stand(0)", y.stand(0), 1);
        DUE.is("cell(0)", y.cell(0), 11);
        DUE.is("cell(1)", y.cell(1), 10);
        BrowArmy z = Due.of("man a 10 10 1;man b 7 10 1;man c 13 10 1;under b a;under c a;clear 2;");
        z.stand(0);
        DUE.is("cell(0)", z.cell(0), 9);
        DUE.is("cell(1)", z.cell(1), 10);
        // at the field's corners
        int[] ends = {0, 30};
        for (int cornerX : ends) {
            for (int cornerY : ends) {
                BrowArmy corner = Due.of("man a 15 15 1;man b " + cornerX + " " + cornerY + " 1;under b a;foe 15 15;clear 1;");
                for (int n = 0; n < 15; n++) {
                    corner.go(0, cornerX == 0 ? 2 : 0);
                    corner.go(0, cornerY == 0 ? 3 : 1);
                }
                DUE.is("stand(0) at a corner", corner.stand(0), 1);
                DUE.is("cell(0)", corner.cell(0), cornerX);
                DUE.is("cell(1)", corner.cell(1), cornerY);
                DUE.is("hide(0) at a corner", corner.hide(0), 0);
                DUE.is("cell(0)", corner.cell(0), cornerX);
                DUE.is("cell(1)", corner.cell(1), cornerY);
            }
        }
        BrowArmy w = Due.of("man a 10 10 1;man b 14 10 9;under b a;clear 3;");
        w.go(0, 0);
        DUE.is("stand(0) where he is", w.stand(0), 1);
        DUE.is("cell(0)", w.cell(0), 11);
    }

    private static void hideFromFoes() {
        BrowArmy x = Due.of("man a 10 10 1;man b 10 12 1;man c 10 14 1;under b a;under c b;foe 10 8;clear 2;");
        DUE.is("foes(0)", x.foes(0), 1);
        DUE.is("hide(0)", x.hide(0), 1);
        DUE.is("cell(0)", x.cell(0), 10);
        DUE.is("cell(1)", x.cell(1), 11);
        DUE.is("hide(1), whom no foe sees", x.hide(1), 0);
        DUE.is("cell(1)", x.cell(1), 12);
        DUE.is("hide(2), nobody is under him", x.hide(2), -1);
        DUE.is("cell(1) stays", x.cell(1), 12);
        x.sleep(1);
        DUE.is("hide(0), a sleeper would see him", x.hide(0), 1);
        x.soot(0);
        // of like ones the least y, then x: at 3 10 nobody would see him
        DUE.is("hide(0) sooted", x.hide(0), 7);
        DUE.is("cell(0)", x.cell(0), 4);
        DUE.is("cell(1)", x.cell(1), 11);
        BrowArmy y = Due.of("man a 10 10 1;man b 10 10 1;under b a;foe 10 10;clear 2;foe 10 12;foe 10 8;");
        DUE.is("hide(0), nowhere", y.hide(0), -1);
        BrowArmy z = Due.of("man a 10 10 1;man b 10 10 3;under b a;foe 10 11;clear 1;");
        DUE.is("hide(0)", z.hide(0), 1);
        DUE.is("cell(0)", z.cell(0), 10);
        DUE.is("cell(1)", z.cell(1), 9);
        // those over others do not count
        BrowArmy w = Due.of("man a 10 10 1;man b 30 30 1;man c 10 10 1;under b a;under c b;clear 1;");
        DUE.is("hide(0) goes to b", w.hide(0), 39);
    }

    private static void cellOfTheLatest() {
        BrowArmy x = Due.of("man a 3 4 1;man b 3 5 1;under b a;");
        x.stand(0);
        DUE.is("cell(0)", x.cell(0), 3);
        DUE.is("cell(1)", x.cell(1), 4);
        DUE.is("cell(2)", x.cell(2), -1);
        DUE.is("cell(-1)", x.cell(-1), -1);
        x.stand(9);
        x.hide(1);
        Due.army(x, "");
        DUE.is("cell(0) stays", x.cell(0), 3);
        DUE.is("cell(1) stays", x.cell(1), 4);
    }

    private static void unrestWithSoot() {
        BrowArmy x = Due.of("man a 0 0 5;man b 0 0 5;man c 0 0 6;man d 0 0 9;under b a;under c b;");
        DUE.is("unrest()", x.unrest(), 4);
        x.soot(1);
        DUE.is("unrest() sooted", x.unrest(), 2);
        x.soot(0);
        x.soot(2);
        DUE.is("unrest() all sooted", x.unrest(), 4);
        x.hours(6);
        DUE.is("unrest() rained", x.unrest(), 4);
        DUE.is("unrest() of some", Due.of("man a 0 0 7;man b 0 0 8;man c 0 0 6;man d 0 0 8;under a c;under b c;under d b;")
            .unrest(), 3);
    }
}
