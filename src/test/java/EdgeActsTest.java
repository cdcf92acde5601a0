/** Boundary cases of what is so, of acts, hours and acts undone (promises 6 to 16), and of a new army (promise 4). */
public final class EdgeActsTest {
    private static final Edge EDGE = new Edge();
    private static final String CHAIN = "man a 0 0 9;man b 0 1 9;man c 0 2 9;man d 0 3 9;under b a;under c b;under d c;"
        + "order o left right;order p both both;";

    public static void main(String[] args) {
        whatIsSo();
        lifts();
        otherActs();
        hours();
        undoing();
        EDGE.finish();
    }

    private static void whatIsSo() {
        manHasTenWhats();
        noSuchManThrows();
        aCallThatThrowsChangesNothing();
        orderHasThreeWhats();
        nowHasSevenWhats();
        aNewArmyIsAtHourNought();
    }

    private static void lifts() {
        liftOneToThree();
        liftOfNoBrow();
        whoHasAnOrderAndIsJoined();
        heardThenRead();
        eachWhoReads();
        lostNinetyNine();
        allLost();
        liftsSoFar();
        giveOrders();
        giveOfNoBrow();
    }

    private static void otherActs() {
        sleepOnce();
        wakeOnce();
        sootOnce();
        sootIsThreeMore();
        goFourSides();
        goToTheFieldsEnds();
    }

    private static void hours() {
        hoursOneToSixty();
        hoursAreOver();
        passedOnWhenItBegan();
        asleepToo();
        noBrowHasPassedItOn();
        stillToBePassedOn();
        rainAtItsHours();
        rainBehindWhatIsPassedOn();
    }

    private static void undoing() {
        eightAreKept();
        noneIsUndone();
        whatWasNotDoneIsNotUndone();
        hoursAndDrawnAboveNought();
        aBookOfWhichSomeLineWasLived();
        aNewArmyForgets();
    }

    // ---- what is so

    private static void manHasTenWhats() {
        EDGE.of(6, "Of a MAN: 0 X, 1 Y, 2 BROW with soot, 3 ASLEEP (1, 0), 4 SOOTED (1, 0), 5 LIFT that he HEARD (0: none), 6 his ORDER (NONE), 7 whether it is to be passed on (1, 0), 8 how often he was LOST, 9 whom he is UNDER (NONE)");
        BrowArmy x = EDGE.army("man a 30 0 9;man b 29 1 5;under b a;order o left right;order p both both;", 5);
        int[] first = {29, 1, 5, 0, 0, 0, -1, 0, 0, 0};
        for (int what = 0; what < 10; what++) {
            EDGE.man(x, 1, what, first[what]);
        }
        x.lift(0, 1);
        x.lift(0, 1);
        x.give(0, 1);
        x.lift(0, 3);
        x.sleep(1);
        x.soot(1);
        int[] then = {29, 1, 8, 1, 1, 3, 1, 1, 1, 0};
        for (int what = 0; what < 10; what++) {
            EDGE.man(x, 1, what, then[what]);
        }
        EDGE.man(x, 0, 9, -1);
        EDGE.man(x, 0, 6, -1);
    }

    private static void noSuchManThrows() {
        EDGE.of(6, "NoSuchElementException: no such ones");
        EDGE.noMan(new BrowArmy(), 0, 0);
        BrowArmy x = EDGE.army("man a 0 0 0;man b 0 0 0;", 2);
        EDGE.man(x, 0, 0, 0);
        EDGE.man(x, 1, 9, -1);
        for (int m : Edge.outside(0, 1)) {
            EDGE.noMan(x, m, 0);
            EDGE.noMan(x, m, 9);
        }
        for (int what : Edge.outside(0, 9)) {
            EDGE.noMan(x, 0, what);
            EDGE.noMan(x, 2, what);
        }
    }

    private static int thrown(BrowArmy x, int m, int what) {
        try {
            return x.man(m, what);
        } catch (java.util.NoSuchElementException e) {
            return -77;
        }
    }

    private static void aCallThatThrowsChangesNothing() {
        EDGE.of(6, "A call that throws changes nothing");
        Twins.leaves(EDGE, "man(5, 0)", -77, x -> thrown(x, 5, 0));
        Twins.leaves(EDGE, "man(-1, 0)", -77, x -> thrown(x, -1, 0));
        Twins.leaves(EDGE, "man(0, 10)", -77, x -> thrown(x, 0, 10));
        Twins.leaves(EDGE, "man(0, -1)", -77, x -> thrown(x, 0, -1));
    }

    private static void orderHasThreeWhats() {
        EDGE.of(7, "Of an ORDER: 0 the first LIFT, 1 the second, 2 who has it, as bits. NONE: no such ones");
        BrowArmy x = EDGE.army(CHAIN, 9);
        EDGE.is("order(0, 0)", new BrowArmy().order(0, 0), -1);
        EDGE.is("order(0, 0)", x.order(0, 0), 1);
        EDGE.is("order(0, 1)", x.order(0, 1), 2);
        EDGE.is("order(1, 1)", x.order(1, 1), 3);
        EDGE.is("order(0, 2)", x.order(0, 2), 0);
        x.give(0, 0);
        x.give(2, 1);
        EDGE.is("order(0, 2)", x.order(0, 2), 2);
        EDGE.is("order(1, 2)", x.order(1, 2), 8);
        for (int o : Edge.outside(0, 1)) {
            EDGE.is("order(" + o + ", 0)", x.order(o, 0), -1);
            EDGE.is("order(" + o + ", 2)", x.order(o, 2), -1);
        }
        for (int what : Edge.outside(0, 2)) {
            EDGE.is("order(0, " + what + ")", x.order(0, what), -1);
            Twins.leaves(EDGE, "order(0, " + what + ")", -1, y -> y.order(0, what));
        }
        Twins.leaves(EDGE, "order(3, 0)", -1, y -> y.order(3, 0));
    }

    private static void nowHasSevenWhats() {
        EDGE.of(8, "0 the HOUR, 1 who is ASLEEP, 2 SOOTED, 3 has an ORDER, 4 has one to be passed on, as bits each, 5 how often all were LOST, 6 LIFTS so far (of GIVING two each). NONE for another what");
        for (int what = 0; what < 7; what++) {
            EDGE.now(new BrowArmy(), what, 0);
        }
        BrowArmy x = EDGE.army(CHAIN, 9);
        x.lift(0, 1);
        x.lift(0, 1);
        x.give(0, 0);
        x.hours(1);
        x.sleep(0);
        x.sleep(3);
        x.soot(1);
        int[] now = {1, 9, 2, 6, 4, 1, 6};
        for (int what = 0; what < 7; what++) {
            EDGE.now(x, what, now[what]);
        }
        for (int what : Edge.outside(0, 6)) {
            EDGE.now(x, what, -1);
            Twins.leaves(EDGE, "now(" + what + ")", -1, y -> y.now(what));
        }
    }

    private static void aNewArmyIsAtHourNought() {
        EDGE.of(4, "A new ARMY: HOUR 0, nobody ASLEEP, SOOTED, HEARD or has anything, no SENTENCE");
        String army = "man a 0 0 9;man b 0 1 3;under b a;order o left right;";
        BrowArmy x = EDGE.army("man a 0 0 9 joined;man b 0 1 3 grey;under b a;order o left right;foe 0 0;clear 5;rain 30;", 7);
        x.lift(0, 1);
        x.lift(0, 1);
        x.give(0, 0);
        x.lift(0, 3);
        x.sleep(1);
        x.soot(1);
        x.go(1, 0);
        x.hours(3);
        x.wake(1);
        x.lift(0, 3);
        x.give(0, 0);
        x.give(0, 0);
        x.lift(0, 1);
        x.sleep(1);
        EDGE.now(x, 4, 2);
        Due.sentence(x, "asleep");
        Due.army(x, army);
        int[] counts = {2, 1, 0, 2, 6, 0};
        for (int what = 0; what < counts.length; what++) {
            EDGE.is("count(" + what + ")", x.count(what), counts[what]);
        }
        for (int what = 0; what < 7; what++) {
            EDGE.now(x, what, 0);
        }
        int[] man = {0, 1, 3, 0, 0, 0, -1, 0, 0, 0};
        for (int what = 0; what < 10; what++) {
            EDGE.man(x, 1, what, man[what]);
        }
        EDGE.is("said(-1)", x.said(-1), -1);
        EDGE.is("order(0, 2)", x.order(0, 2), 0);
        EDGE.sentence(x, "joined or grey", 2, 0);
    }

    // ---- lifts and orders

    private static void liftOneToThree() {
        EDGE.of(9, "A MAN LIFTS (1 to 3): 0, or why not; NONE: no such ones");
        for (int lift = 1; lift <= 3; lift++) {
            BrowArmy x = EDGE.army(CHAIN, 9);
            EDGE.is("lift(0, " + lift + ")", x.lift(0, lift), 0);
            EDGE.man(x, 1, 5, lift);
            EDGE.man(x, 2, 5, 0);
        }
        BrowArmy x = EDGE.army(CHAIN, 9);
        EDGE.is("lift(3, 1)", x.lift(3, 1), 0);
        EDGE.is("lift(0, 1) without men", new BrowArmy().lift(0, 1), -1);
        for (int lift : Edge.outside(1, 3)) {
            Twins.leaves(EDGE, "lift(0, " + lift + ")", -1, y -> y.lift(0, lift));
        }
        for (int m : Edge.outside(0, 4)) {
            Twins.leaves(EDGE, "lift(" + m + ", 1)", -1, y -> y.lift(m, 1));
        }
    }

    private static void liftOfNoBrow() {
        EDGE.of(9, "To LIFT (a LIFT) by a MAN: why not: 1 his BROW is 0");
        BrowArmy x = EDGE.army("man a 0 0 0;man b 0 0 1;man c 0 0 1;under c b;under b a;rain 2;", 6);
        EDGE.is("lift(0, 1)", x.lift(0, 1), 1);
        EDGE.now(x, 6, 0);
        EDGE.is("undo()", x.undo(), -1);
        EDGE.is("lift(1, 1) by a brow of 1", x.lift(1, 1), 0);
        EDGE.man(x, 2, 5, 1);
        x.soot(0);
        EDGE.is("lift(0, 2) sooted", x.lift(0, 2), 0);
        EDGE.man(x, 1, 5, 2);
        x.hours(2);
        EDGE.is("lift(0, 2) behind rain", x.lift(0, 2), 1);
        Twins.leaves(EDGE, "lift by a brow of 0", 1, EdgeActsTest::liftInVain);
    }

    /** Takes back what was done since the fourth man was sooted, lifts in vain, and does it all again. */
    private static int liftInVain(BrowArmy x) {
        for (int n = 0; n < 4; n++) {
            x.undo();
        }
        int whyNot = x.lift(3, 1);
        x.soot(3);
        x.go(0, 2);
        x.give(0, 2);
        x.lift(0, 3);
        return whyNot;
    }

    private static void whoHasAnOrderAndIsJoined() {
        EDGE.of(9, "who is JOINED and has an ORDER: nothing");
        BrowArmy x = EDGE.army("man a 0 0 9;man b 0 0 9 joined;man c 0 0 9;under b a;under c a;"
            + "order o left right;order p both both;", 7);
        x.lift(0, 1);
        EDGE.man(x, 1, 5, 1);
        x.lift(0, 1);
        // joined, but he has none yet: lost like others
        EDGE.man(x, 1, 8, 1);
        EDGE.man(x, 1, 5, 0);
        x.give(0, 0);
        EDGE.man(x, 1, 6, 0);
        x.lift(0, 3);
        EDGE.man(x, 1, 5, 0);
        EDGE.man(x, 2, 5, 3);
        x.lift(0, 3);
        EDGE.man(x, 1, 6, 0);
        EDGE.man(x, 2, 6, 1);
        x.hours(1);
        x.give(0, 1);
        // passed on or not, he has it
        EDGE.man(x, 1, 6, 0);
        EDGE.man(x, 1, 7, 0);
        EDGE.man(x, 2, 7, 1);
    }

    private static void heardThenRead() {
        EDGE.of(9, "who HEARD nothing: he HEARD that LIFT; else, if there is an ORDER of that which he HEARD and this one, he has that ORDER, to be passed on, else he is LOST once more (99 at most); he HEARD nothing then");
        for (int first = 1; first <= 3; first++) {
            for (int second = 1; second <= 3; second++) {
                BrowArmy x = EDGE.army("man a 0 0 9;man b 0 0 9;under b a;order o left right;order p both both;order q right left;", 6);
                x.lift(0, first);
                EDGE.man(x, 1, 5, first);
                EDGE.man(x, 1, 6, -1);
                x.lift(0, second);
                int order = first == 1 && second == 2 ? 0 : first == 3 && second == 3 ? 1 : first == 2 && second == 1 ? 2 : -1;
                EDGE.man(x, 1, 5, 0);
                EDGE.man(x, 1, 6, order);
                EDGE.man(x, 1, 7, order == -1 ? 0 : 1);
                EDGE.man(x, 1, 8, order == -1 ? 1 : 0);
            }
        }
        // who has an order keeps it when he is lost, and takes another one
        BrowArmy x = EDGE.army(CHAIN, 9);
        x.give(0, 0);
        x.hours(1);
        x.lift(0, 1);
        x.lift(0, 1);
        EDGE.man(x, 1, 6, 0);
        EDGE.man(x, 1, 7, 0);
        EDGE.man(x, 1, 8, 1);
        x.give(0, 1);
        EDGE.man(x, 1, 6, 1);
        EDGE.man(x, 1, 7, 1);
        // the same one again is to be passed on again
        x.hours(1);
        EDGE.man(x, 1, 7, 0);
        x.give(0, 1);
        EDGE.man(x, 1, 7, 1);
    }

    private static void eachWhoReads() {
        EDGE.of(9, "each who READS him, by number");
        // seven under the last one: one asleep, one too far, one under another
        BrowArmy x = EDGE.army("man a 0 0 1;man b 1 1 1;man c 1 2 1;man d 0 0 1;man e 0 0 1;man f 2 0 0;man g 0 1 9;man h 0 0 1;"
            + "under a h;under b h;under c h;under d h;under e a;under f h;under g h;clear 2;order o left left;", 17);
        x.sleep(3);
        EDGE.is("reads(7)", x.reads(7), 99);
        x.lift(7, 2);
        int[] heard = {2, 2, 0, 0, 0, 2, 2, 0};
        for (int m = 0; m < 8; m++) {
            EDGE.man(x, m, 5, heard[m]);
        }
        x.undo();
        x.give(7, 0);
        EDGE.is("order(0, 2)", x.order(0, 2), 99);
        EDGE.now(x, 4, 99);
        EDGE.is("lift(4, 1), whom nobody reads", x.lift(4, 1), 0);
        for (int m = 0; m < 8; m++) {
            EDGE.man(x, m, 5, 0);
        }
    }

    private static void lostNinetyNine() {
        EDGE.of(9, "else he is LOST once more (99 at most)");
        BrowArmy x = EDGE.army("man a 0 0 1;man b 0 0 1;under b a;", 3);
        for (int n = 1; n <= 101; n++) {
            x.lift(0, 1);
            x.lift(0, 2);
            EDGE.man(x, 1, 8, Math.min(n, 99));
        }
        EDGE.man(x, 1, 5, 0);
        EDGE.now(x, 5, 99);
        EDGE.now(x, 6, 202);
    }

    private static void allLost() {
        EDGE.of(8, "5 how often all were LOST");
        BrowArmy x = EDGE.army("man b 0 0 1;man c 0 0 1;man a 0 0 1;under b a;under c a;", 5);
        for (int n = 1; n <= 100; n++) {
            x.lift(2, 1);
            x.lift(2, 1);
        }
        EDGE.now(x, 5, 198);
        EDGE.man(x, 0, 8, 99);
        EDGE.man(x, 1, 8, 99);
        // eight men, of whom seven are lost at once
        StringBuilder eight = new StringBuilder("man a 0 0 1;");
        for (char man = 'b'; man <= 'h'; man++) {
            eight.append("man ").append(man).append(" 0 0 1;under ").append(man).append(" a;");
        }
        BrowArmy full = EDGE.army(eight.toString(), 15);
        full.lift(0, 1);
        full.lift(0, 1);
        EDGE.now(full, 5, 7);
    }

    private static void liftsSoFar() {
        EDGE.of(8, "6 LIFTS so far (of GIVING two each)");
        BrowArmy x = EDGE.army(CHAIN, 9);
        x.lift(3, 1);
        EDGE.now(x, 6, 1);
        x.give(3, 0);
        EDGE.now(x, 6, 3);
        x.give(0, 0);
        EDGE.now(x, 6, 5);
        x.hours(1);
        EDGE.now(x, 6, 7);
        x.undo();
        EDGE.now(x, 6, 5);
        x.reach(0, 0);
        EDGE.now(x, 6, 5);
    }

    private static void giveOrders() {
        EDGE.of(10, "He GIVES an ORDER: 0, or why not; NONE: no such ones");
        BrowArmy x = EDGE.army(CHAIN, 9);
        EDGE.is("give(0, 1)", x.give(0, 1), 0);
        EDGE.man(x, 1, 6, 1);
        EDGE.is("give(3, 0)", x.give(3, 0), 0);
        EDGE.is("give(0, 0) without orders", EDGE.army("man a 0 0 9;", 1).give(0, 0), -1);
        EDGE.is("give(0, 0) without men", EDGE.army("order o left left;", 1).give(0, 0), -1);
        for (int o : Edge.outside(0, 2)) {
            Twins.leaves(EDGE, "give(0, " + o + ")", -1, y -> y.give(0, o));
        }
        for (int m : Edge.outside(0, 4)) {
            Twins.leaves(EDGE, "give(" + m + ", 0)", -1, y -> y.give(m, 0));
        }
    }

    private static void giveOfNoBrow() {
        EDGE.of(10, "To GIVE an ORDER: 1 his BROW is 0: he LIFTS its first, then its second");
        BrowArmy x = EDGE.army("man a 0 0 0;man b 0 0 1;man c 0 0 1;under b a;under c b;order o left right;", 6);
        EDGE.is("give(0, 0)", x.give(0, 0), 1);
        EDGE.now(x, 6, 0);
        EDGE.is("undo()", x.undo(), -1);
        EDGE.is("give(1, 0)", x.give(1, 0), 0);
        EDGE.man(x, 2, 6, 0);
        x.soot(0);
        EDGE.is("give(0, 0) sooted", x.give(0, 0), 0);
        EDGE.man(x, 1, 6, 0);
        // the first lift ends what he heard, the second begins anew
        BrowArmy y = EDGE.army(CHAIN, 9);
        y.lift(0, 3);
        y.give(0, 0);
        EDGE.man(y, 1, 5, 2);
        EDGE.man(y, 1, 8, 1);
        EDGE.man(y, 1, 6, -1);
    }

    // ---- other acts

    private static void sleepOnce() {
        EDGE.of(11, "He SLEEPS: 0, or why not; NONE: no such one");
        BrowArmy x = EDGE.army(CHAIN, 9);
        EDGE.is("sleep(0)", x.sleep(0), 0);
        EDGE.is("sleep(3)", x.sleep(3), 0);
        EDGE.now(x, 1, 9);
        EDGE.is("sleep(0) again", x.sleep(0), 1);
        EDGE.now(x, 1, 9);
        EDGE.is("sleep(0) without men", new BrowArmy().sleep(0), -1);
        EDGE.of(11, "To SLEEP: 1 he is ASLEEP");
        Twins.leaves(EDGE, "sleep(2), who is", 1, y -> y.sleep(2));
        EDGE.of(11, "0, or why not; NONE: no such one");
        for (int m : Edge.outside(0, 4)) {
            Twins.leaves(EDGE, "sleep(" + m + ")", -1, y -> y.sleep(m));
        }
    }

    private static void wakeOnce() {
        EDGE.of(12, "He WAKES: 0, or why not; NONE: no such one");
        BrowArmy x = EDGE.army(CHAIN, 9);
        EDGE.is("wake(0)", x.wake(0), 1);
        x.sleep(0);
        x.sleep(3);
        EDGE.is("wake(3)", x.wake(3), 0);
        EDGE.now(x, 1, 1);
        EDGE.is("wake(3) again", x.wake(3), 1);
        EDGE.is("wake(0)", x.wake(0), 0);
        EDGE.now(x, 1, 0);
        EDGE.is("wake(0) without men", new BrowArmy().wake(0), -1);
        EDGE.of(12, "To WAKE: 1 he is not");
        Twins.leaves(EDGE, "wake(0), who is not", 1, y -> y.wake(0));
        EDGE.of(12, "0, or why not; NONE: no such one");
        for (int m : Edge.outside(0, 4)) {
            Twins.leaves(EDGE, "wake(" + m + ")", -1, y -> y.wake(m));
        }
    }

    private static void sootOnce() {
        EDGE.of(13, "He is SOOTED: 0, or why not; NONE: no such one");
        BrowArmy x = EDGE.army(CHAIN, 9);
        EDGE.is("soot(0)", x.soot(0), 0);
        EDGE.is("soot(3)", x.soot(3), 0);
        EDGE.now(x, 2, 9);
        EDGE.is("soot(3) again", x.soot(3), 1);
        EDGE.now(x, 2, 9);
        EDGE.is("soot(0) without men", new BrowArmy().soot(0), -1);
        EDGE.of(13, "To SOOT him: 1 he is SOOTED");
        Twins.leaves(EDGE, "soot(3), who is", 1, y -> y.soot(3));
        EDGE.of(13, "0, or why not; NONE: no such one");
        for (int m : Edge.outside(0, 4)) {
            Twins.leaves(EDGE, "soot(" + m + ")", -1, y -> y.soot(m));
        }
    }

    private static void sootIsThreeMore() {
        EDGE.of(13, "The BROW of a MAN who is SOOTED is 3 more (9 at most)");
        for (int brow = 0; brow <= 9; brow++) {
            BrowArmy x = EDGE.army("man a 0 0 " + brow + ";", 1);
            EDGE.man(x, 0, 2, brow);
            x.soot(0);
            EDGE.man(x, 0, 2, Math.min(9, brow + 3));
            x.hours(6);
            EDGE.man(x, 0, 2, brow);
        }
    }

    private static void goFourSides() {
        EDGE.of(14, "He GOES to a SIDE (0 to 3): 0, or why not; NONE: no such ones");
        int[] xs = {6, 5, 4, 5};
        int[] ys = {5, 6, 5, 4};
        for (int side = 0; side < 4; side++) {
            BrowArmy x = EDGE.army("man z 9 9 9;man a 5 5 0;", 2);
            EDGE.is("go(1, " + side + ")", x.go(1, side), 0);
            EDGE.man(x, 1, 0, xs[side]);
            EDGE.man(x, 1, 1, ys[side]);
            EDGE.man(x, 0, 0, 9);
            EDGE.man(x, 0, 1, 9);
        }
        EDGE.is("go(0, 0) without men", new BrowArmy().go(0, 0), -1);
        for (int side : Edge.outside(0, 3)) {
            Twins.leaves(EDGE, "go(0, " + side + ")", -1, y -> y.go(0, side));
        }
        for (int m : Edge.outside(0, 4)) {
            Twins.leaves(EDGE, "go(" + m + ", 0)", -1, y -> y.go(m, 0));
        }
    }

    private static void goToTheFieldsEnds() {
        EDGE.of(14, "To GO to a SIDE (east: X 1 more, south: Y 1 more): 1 there is no cell (0 to 30 each): he is there");
        BrowArmy x = EDGE.army("man a 29 29 1;man b 1 1 1;", 2);
        for (int side = 0; side < 4; side++) {
            int m = side / 2;
            EDGE.is("go to the last cell", x.go(m, side), 0);
            EDGE.is("go beyond it", x.go(m, side), 1);
            EDGE.man(x, m, side % 2, m == 0 ? 30 : 0);
        }
        EDGE.is("undo() of what was done alone", x.undo(), 3);
        EDGE.man(x, 1, 1, 1);
    }

    // ---- hours

    private static void hoursOneToSixty() {
        EDGE.of(15, "n (1 to 60) HOURS go by: how many did; NONE: not as told");
        BrowArmy x = new BrowArmy();
        EDGE.is("hours(1)", x.hours(1), 1);
        EDGE.now(x, 0, 1);
        EDGE.is("hours(60)", x.hours(60), 60);
        EDGE.now(x, 0, 61);
        for (int n : Edge.outside(1, 60)) {
            Twins.leaves(EDGE, "hours(" + n + ")", -1, y -> y.hours(n));
        }
    }

    private static void hoursAreOver() {
        EDGE.of(15, "An HOUR (0 to 399; 400: all are over) goes");
        BrowArmy x = EDGE.army(CHAIN, 9);
        Edge.till(x, 341);
        EDGE.is("hours(60) at 341", x.hours(60), 59);
        EDGE.now(x, 0, 400);
        EDGE.is("hours(1) at 400", x.hours(1), 0);
        EDGE.is("hours(60) at 400", x.hours(60), 0);
        EDGE.now(x, 0, 400);
        EDGE.is("hours(61) at 400", x.hours(61), -1);
        x.give(0, 0);
        EDGE.is("hours(1) at 400", x.hours(1), 0);
        EDGE.now(x, 4, 2);
        x.undo();
        EDGE.is("undo() of 59", x.undo(), 6);
        EDGE.now(x, 0, 341);
        EDGE.is("hours(58)", x.hours(58), 58);
        EDGE.is("hours(1) at 399", x.hours(1), 1);
        EDGE.now(x, 0, 400);
    }

    private static void passedOnWhenItBegan() {
        EDGE.of(15, "MAN by MAN who had an ORDER to be passed on when it began (ASLEEP, too): he GIVES that one (if his BROW is not 0), and has passed it on");
        BrowArmy x = EDGE.army(CHAIN, 9);
        x.give(0, 0);
        EDGE.now(x, 4, 2);
        x.hours(1);
        // one rank an hour, though he who reads it is behind in number
        EDGE.now(x, 3, 6);
        EDGE.now(x, 4, 4);
        x.hours(1);
        EDGE.now(x, 3, 14);
        EDGE.now(x, 4, 8);
        x.hours(1);
        EDGE.now(x, 4, 0);
        EDGE.now(x, 6, 8);
        x.hours(60);
        EDGE.now(x, 6, 8);
    }

    private static void asleepToo() {
        EDGE.of(15, "MAN by MAN who had an ORDER to be passed on when it began (ASLEEP, too)");
        BrowArmy x = EDGE.army(CHAIN, 9);
        x.give(0, 0);
        x.sleep(1);
        x.hours(1);
        EDGE.now(x, 3, 6);
        EDGE.now(x, 4, 4);
        EDGE.now(x, 1, 2);
    }

    private static void noBrowHasPassedItOn() {
        EDGE.of(15, "he GIVES that one (if his BROW is not 0), and has passed it on");
        BrowArmy x = EDGE.army("man a 0 0 9;man b 0 0 0;man c 0 0 9;under b a;under c b;order o left left;", 6);
        x.give(0, 0);
        EDGE.man(x, 1, 7, 1);
        x.hours(1);
        EDGE.man(x, 1, 7, 0);
        EDGE.man(x, 1, 6, 0);
        EDGE.now(x, 6, 2);
        x.soot(1);
        x.hours(1);
        EDGE.now(x, 3, 2);
        // sooted he gives it
        x.give(0, 0);
        x.hours(1);
        EDGE.now(x, 3, 6);
    }

    private static void stillToBePassedOn() {
        EDGE.of(15, "one that comes to him in this HOUR is still to be passed on");
        String men = "order o left right;order p both both;under b a;under c b;";
        // he who gives it to him is ahead of him in number, or behind
        for (int turn = 0; turn < 2; turn++) {
            String first = turn == 0 ? "man a 0 0 9;man b 0 0 9;" : "man b 0 0 9;man a 0 0 9;";
            int a = turn;
            int b = 1 - turn;
            BrowArmy x = EDGE.army(first + "man c 0 0 9;man z 0 0 9;under a z;" + men, 9);
            x.give(a, 0);
            x.give(3, 1);
            EDGE.now(x, 4, 3);
            x.hours(1);
            // b gave what he had when it began, and has what came
            EDGE.man(x, 2, 6, 0);
            EDGE.man(x, b, 6, 1);
            EDGE.man(x, b, 7, 1);
            EDGE.man(x, a, 7, 0);
            x.hours(1);
            EDGE.man(x, 2, 6, 1);
            EDGE.man(x, b, 7, 0);
        }
        // the same order again is still to be passed on, too
        BrowArmy x = EDGE.army("man z 0 0 9;man a 0 0 9;man b 0 0 9;man c 0 0 9;under a z;" + men, 9);
        x.give(1, 0);
        x.give(0, 0);
        x.hours(1);
        EDGE.now(x, 4, 12);
    }

    private static void rainAtItsHours() {
        EDGE.of(15, "Then, if the number of the next HOUR is divided by 'rain', nobody is SOOTED. It is the next HOUR");
        for (int rain : new int[] {1, 2, 6, 29, 30}) {
            BrowArmy x = EDGE.army("man a 0 0 0;man b 0 0 0;rain " + rain + ";", 3);
            x.soot(0);
            x.soot(1);
            for (int hour = 1; hour <= 2 * rain; hour++) {
                x.hours(1);
                EDGE.now(x, 2, hour % rain == 0 ? 0 : 3);
                x.soot(0);
                x.soot(1);
            }
        }
        BrowArmy untold = EDGE.army("man a 0 0 0;", 1);
        untold.soot(0);
        untold.hours(5);
        EDGE.now(untold, 2, 1);
        untold.hours(1);
        EDGE.now(untold, 2, 0);
    }

    private static void rainBehindWhatIsPassedOn() {
        EDGE.of(15, "Then, if the number of the next HOUR is divided by 'rain', nobody is SOOTED");
        BrowArmy x = EDGE.army("man a 0 0 9;man b 0 0 0;man c 0 0 0;under b a;under c b;order o left left;rain 1;", 7);
        x.give(0, 0);
        x.soot(1);
        x.hours(1);
        // he gave it with soot, and it rained behind that
        EDGE.now(x, 3, 6);
        EDGE.now(x, 2, 0);
    }

    // ---- undone

    private static void eightAreKept() {
        EDGE.of(16, "how many more can be (8 at most are kept)");
        for (int done = 0; done <= 20; done++) {
            BrowArmy x = EDGE.army("man a 0 0 1;", 1);
            for (int n = 0; n < done; n++) {
                x.go(0, 0);
            }
            int kept = Math.min(done, 8);
            for (int left = kept - 1; left >= 0; left--) {
                EDGE.is("undo()", x.undo(), left);
                EDGE.man(x, 0, 0, done - kept + left);
            }
            EDGE.is("undo()", x.undo(), -1);
            EDGE.man(x, 0, 0, done - kept);
        }
    }

    private static void noneIsUndone() {
        EDGE.of(16, "NONE: none is");
        BrowArmy x = EDGE.army(CHAIN, 9);
        EDGE.is("undo()", x.undo(), -1);
        x.sleep(0);
        EDGE.is("undo()", x.undo(), 0);
        EDGE.is("undo()", x.undo(), -1);
        EDGE.now(x, 1, 0);
        x.sleep(1);
        EDGE.is("undo() again", x.undo(), 0);
        EDGE.is("undo() of a new object", new BrowArmy().undo(), -1);
        Twins.same(EDGE, "undo() of none", y -> {
            y.restore(0);
            y.undo();
        }, y -> y.restore(0));
    }

    private static void whatWasNotDoneIsNotUndone() {
        EDGE.of(16, "The latest of lift(), give(), sleep(), wake(), soot(), go() that was done");
        BrowArmy x = EDGE.army("man a 0 0 0;order o left left;", 2);
        x.lift(0, 1);
        x.give(0, 0);
        x.wake(0);
        x.go(0, 2);
        x.go(0, 3);
        x.lift(0, 0);
        x.give(0, 1);
        x.sleep(1);
        x.wake(-1);
        x.soot(1);
        x.go(0, 4);
        EDGE.is("undo()", x.undo(), -1);
        x.soot(0);
        x.soot(0);
        x.sleep(0);
        x.sleep(0);
        EDGE.is("undo() of sleep", x.undo(), 1);
        EDGE.now(x, 1, 0);
        EDGE.now(x, 2, 1);
        x.lift(0, 2);
        EDGE.is("undo() of lift", x.undo(), 1);
        EDGE.now(x, 6, 0);
        x.give(0, 0);
        EDGE.is("undo() of give, both its lifts", x.undo(), 1);
        EDGE.now(x, 6, 0);
        x.sleep(0);
        x.wake(0);
        EDGE.is("undo() of wake", x.undo(), 2);
        EDGE.now(x, 1, 1);
        x.go(0, 1);
        EDGE.is("undo() of go", x.undo(), 2);
        EDGE.man(x, 0, 1, 0);
    }

    private static void hoursAndDrawnAboveNought() {
        EDGE.of(16, "hours() above 0, drawn() above 0");
        BrowArmy x = EDGE.army(CHAIN, 9);
        x.hours(0);
        x.hours(61);
        x.drawn(0, 1);
        x.drawn(61, 1);
        EDGE.is("undo()", x.undo(), -1);
        x.hours(1);
        x.drawn(1, 5);
        EDGE.is("undo() of drawn", x.undo(), 1);
        EDGE.now(x, 0, 1);
        EDGE.is("undo() of hours", x.undo(), 0);
        EDGE.now(x, 0, 0);
        x.hours(60);
        EDGE.is("undo() of all 60", x.undo(), 0);
        EDGE.now(x, 0, 0);
        x.drawn(60, 1);
        EDGE.is("undo() of all 60 drawn", x.undo(), 0);
        EDGE.now(x, 0, 0);
        Edge.till(x, 399);
        x.hours(60);
        x.hours(1);
        x.drawn(1, 1);
        EDGE.is("undo() of the last hour", x.undo(), 7);
        EDGE.now(x, 0, 399);
        x.drawn(60, 1);
        x.drawn(60, 1);
        EDGE.is("undo() of the last hour drawn", x.undo(), 7);
        EDGE.now(x, 0, 399);
    }

    private static void aBookOfWhichSomeLineWasLived() {
        EDGE.of(16, "a BOOK of which some LINE was lived is undone");
        BrowArmy x = EDGE.army(CHAIN, 9);
        Due.book(x, 1, "");
        Due.book(x, 0, "a sleeps;");
        Due.book(x, 1, "a wakes;a sleeps;");
        Due.book(x, 1, "a sleeps;?");
        EDGE.is("undo()", x.undo(), -1);
        Due.book(x, 1, "a sleeps;a sleeps;");
        EDGE.is("undo() of one line", x.undo(), 0);
        EDGE.now(x, 1, 0);
        Due.book(x, 1, "a gives o;hour 2;a sleeps;b soots;");
        EDGE.is("undo() of four", x.undo(), 0);
        for (int what = 0; what < 7; what++) {
            EDGE.now(x, what, 0);
        }
    }

    private static void aNewArmyForgets() {
        EDGE.of(16, "NONE: none is");
        BrowArmy x = EDGE.army(CHAIN, 9);
        x.sleep(0);
        Due.army(x, "man a 0 0 31;");
        EDGE.is("undo() behind a faulty army", x.undo(), 0);
        x.sleep(0);
        Due.army(x, CHAIN);
        EDGE.is("undo() behind a new one", x.undo(), -1);
        EDGE.now(x, 1, 0);
    }
}
