/** Promises 39 and 40: sentences, and of whom they may be said. */
public final class SentenceTest {
    private static final Due DUE = new Due();
    private static final String ARMY = "man a 0 0 9;man b 0 1 5 joined;man c 0 2 0 grey;man d 30 30 1 joined grey;"
        + "under b a;under c b;under d a;order o left right;order p both both;";

    public static void main(String[] args) {
        ahead();
        faults();
        tooLong();
        tooManyOnes();
        tooDeep();
        everyOne();
        joined();
        saidAsItIs();
        aFaultLeavesIt();
        DUE.finish();
    }

    private static void fault(String text, int place, int kind) {
        BrowArmy x = Due.of(ARMY);
        DUE.is("sentence() of '" + text + "'", Due.sentence(x, text), -1 - place);
        DUE.is("fault() of '" + text + "'", x.fault(), kind);
        DUE.is("count(5) behind '" + text + "'", x.count(5), 0);
        DUE.is("said(-1) behind '" + text + "'", x.said(-1), -1);
    }

    private static void said(BrowArmy x, String text, int ones, int men) {
        DUE.is("sentence() of '" + text + "'", Due.sentence(x, text), ones);
        DUE.is("fault() of '" + text + "'", x.fault(), 0);
        DUE.is("said(-1) of '" + text + "'", x.said(-1), Integer.bitCount(men));
        int k = 0;
        for (int m = 0; m < 8; m++) {
            if ((men >> m & 1) == 1) {
                DUE.is("said(" + k + ") of '" + text + "'", x.said(k), m);
                k++;
            }
        }
        DUE.is("said(" + k + ") of '" + text + "'", x.said(k), -1);
        DUE.is("said(-2) of '" + text + "'", x.said(-2), -1);
    }

    private static void ahead() {
        BrowArmy x = Due.of(ARMY);
        DUE.is("said(-1) ahead of any", x.said(-1), -1);
        DUE.is("said(0) ahead of any", x.said(0), -1);
        said(new BrowArmy(), "asleep or not asleep", 3, 0);
    }

    private static void faults() {
        fault("", 0, 1);
        fault("  ", 2, 1);
        fault("asleep;", 6, 1);
        fault("asleep asleep", 7, 1);
        fault("asleep and", 10, 1);
        fault("and asleep", 0, 1);
        fault("asleep or and", 10, 1);
        fault("not", 3, 1);
        fault("not and", 4, 1);
        fault("(asleep", 7, 1);
        fault("asleep)", 6, 1);
        fault("()", 1, 1);
        fault("a", 0, 1);
        fault("man", 0, 1);
        fault("number", 6, 1);
        fault("brow 5", 5, 1);
        fault("brow ( 5", 5, 1);
        fault("brow < a", 7, 1);
        fault("brow <= 5", 6, 1);
        fault("brow < 1000", 7, 1);
        fault("under", 5, 1);
        fault("under asleep", 6, 1);
        fault("under 1", 6, 1);
        fault("under x", 6, 3);
        fault("under o", 6, 3);
        fault("sees p", 5, 3);
        fault("has a", 4, 3);
        fault("has not", 4, 1);
        fault("has x", 4, 3);
        fault("asleep & idle", 7, 1);
    }

    private static void tooLong() {
        BrowArmy x = Due.of(ARMY);
        said(x, Due.padded("idle", 200), 1, 15);
        fault(Due.padded("idle", 201), 200, 1);
        fault(Due.padded("", 940), 200, 1);
        fault(Due.padded("idle idle", 300), 5, 1);
        fault(Due.padded("idle and", 199) + "idle", 200, 1);
        fault(Due.padded("idle and", 199) + "idl", 199, 1);
        fault(Due.padded("under", 199) + "aa", 199, 3);
        fault(Due.padded("idle and", 199) + "a", 199, 1);
        fault(Due.padded("brow <", 198) + "9999", 198, 1);
        said(x, Due.padded("brow <", 197) + "999", 1, 15);
    }

    private static void tooManyOnes() {
        BrowArmy x = Due.of(ARMY);
        said(x, "idle" + " or idle".repeat(19), 20, 15);
        said(x, "idle" + " and idle".repeat(19), 20, 15);
        String twenty = "not(not idle)" + " and idle".repeat(16);
        said(x, twenty, 20, 15);
        fault("idle" + " or idle".repeat(20), 160, 4);
        fault("idle" + " or idle".repeat(19) + " or", 159, 1);
        fault("idle" + " or idle".repeat(19) + " or a", 160, 1);
        fault("idle" + " or idle".repeat(19) + " or (", 160, 4);
        fault("idle" + " or idle".repeat(18) + " or not x", 160 - 8 + 4, 1);
        fault("idle" + " or idle".repeat(18) + " or not idle", 160 - 8 + 4, 4);
        fault("idle" + " or idle".repeat(18) + " or (idle)", 160 - 8 + 1, 4);
    }

    private static void tooDeep() {
        BrowArmy x = Due.of(ARMY);
        said(x, "not ".repeat(7) + "grey", 8, 3);
        said(x, "(".repeat(7) + "grey" + ")".repeat(7), 8, 12);
        fault("not ".repeat(8) + "grey", 32, 4);
        fault("(".repeat(8) + "grey" + ")".repeat(8), 8, 4);
        fault("(".repeat(8) + ")", 8, 1);
        fault("not(".repeat(4) + "grey", 16, 4);
        said(x, "not(not(not(not grey or idle)or idle)or grey)or joined", 12, 11);
        fault("not(not(not(not(idle", 16, 4);
    }

    private static void everyOne() {
        BrowArmy x = Due.of(ARMY);
        said(x, "joined", 1, 10);
        said(x, "grey", 1, 12);
        said(x, "asleep", 1, 0);
        said(x, "sooted", 1, 0);
        said(x, "idle", 1, 15);
        said(x, "under a", 1, 10);
        said(x, "under b", 1, 4);
        said(x, "under d", 1, 0);
        said(x, "sees a", 1, 6);
        said(x, "sees b", 1, 5);
        said(x, "sees c", 1, 0);
        said(x, "has o", 1, 0);
        x.give(0, 1);
        x.soot(2);
        x.sleep(2);
        x.lift(0, 1);
        x.lift(0, 2);
        x.lift(0, 2);
        said(x, "has p", 1, 2);
        said(x, "has o", 1, 0);
        said(x, "idle", 1, 13);
        said(x, "sooted", 1, 4);
        said(x, "asleep", 1, 4);
        said(x, "sees c", 1, 3);
        said(x, "sees a", 1, 2);
        said(x, "brow=3", 1, 4);
        said(x, "brow<3", 1, 8);
        said(x, "brow>3", 1, 3);
        said(x, "number>0", 1, 14);
        said(x, "number<001", 1, 1);
        said(x, "number=2", 1, 4);
        said(x, "number<999", 1, 15);
        BrowArmy y = Due.of("man a 0 0 9;man b 0 1 5;man c 0 1 5;under b a;under c b;");
        y.lift(0, 3);
        y.lift(1, 1);
        y.lift(1, 1);
        said(y, "heard=3", 1, 2);
        said(y, "heard=0", 1, 5);
        said(y, "heard>2", 1, 2);
        said(y, "lost=1", 1, 4);
        said(y, "lost<1", 1, 3);
        said(y, "lost>0", 1, 4);
    }

    private static void joined() {
        BrowArmy x = Due.of(ARMY);
        said(x, "joined and grey", 2, 8);
        said(x, "joined or grey", 2, 14);
        said(x, "not joined and grey", 3, 4);
        said(x, "not (joined and grey)", 4, 7);
        said(x, "number=0 or joined and grey", 3, 9);
        said(x, "joined and grey or number=0", 3, 9);
        said(x, "(number=0 or joined)and grey", 4, 8);
        said(x, "not not joined", 3, 10);
        said(x, "number<2 and (joined or grey) or not (brow>0 or number=0)\n", 8, 6);
    }

    private static void saidAsItIs() {
        BrowArmy x = Due.of(ARMY);
        said(x, "asleep", 1, 0);
        x.sleep(3);
        DUE.is("said(0)", x.said(0), 3);
        x.undo();
        DUE.is("said(-1) undone", x.said(-1), 0);
        said(x, "sees a", 1, 6);
        x.go(3, 2);
        Due.army(x, ARMY);
        DUE.is("said(-1) of a new army", x.said(-1), -1);
    }

    private static void aFaultLeavesIt() {
        BrowArmy x = Due.of(ARMY);
        said(x, "joined and grey", 2, 8);
        Due.sentence(x, "idle or x");
        DUE.is("fault()", x.fault(), 1);
        DUE.is("said(-1)", x.said(-1), 1);
        DUE.is("said(0)", x.said(0), 3);
        Due.army(x, "x");
        DUE.is("said(0) behind a faulty army", x.said(0), 3);
    }
}
