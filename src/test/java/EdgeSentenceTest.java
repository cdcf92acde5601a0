/** Boundary cases of a SENTENCE (promises 39 and 40). */
public final class EdgeSentenceTest {
    private static final Edge EDGE = new Edge();
    private static final int JOINED = 2;
    private static final int GREY = 4;
    private static final String ARMY = "man a 0 0 9;man b 0 1 5 joined;man c 0 2 0 grey;under b a;under c b;"
        + "order o left right;order p both both;";

    public static void main(String[] args) {
        aSentenceHasTwoHundredBytes();
        twentyOnes();
        eightWithinOneAnother();
        aNinthWithin();
        aTwentyFirstOne();
        andBindsMoreThanOr();
        threeSigns();
        browWithSoot();
        heardNoughtIsNone();
        lostAsOften();
        hisNumber();
        idleHasNoOrder();
        underNotOverOthers();
        seesAnother();
        aSentenceStays();
        howManyOrTheKth();
        noSentence();
        saidOfMenAsTheyAre();
        EDGE.finish();
    }

    private static BrowArmy sayer() {
        return EDGE.army(ARMY, 7);
    }

    private static void aSentenceHasTwoHundredBytes() {
        EDGE.of(39, "A SENTENCE is a text of at most 200 bytes");
        BrowArmy x = sayer();
        EDGE.sentence(x, Due.padded("grey", 200), 1, GREY);
        EDGE.sentence(x, " ".repeat(194) + "joined", 1, JOINED);
        EDGE.sentenceFault(x, Due.padded("grey", 201), 200, 1);
        EDGE.sentenceFault(x, " ".repeat(195) + "joined", 200, 1);
        EDGE.sentenceFault(x, " ".repeat(200), 200, 1);
        EDGE.sentenceFault(x, " ".repeat(201), 200, 1);
        EDGE.is("said(0) stays", x.said(0), 1);
    }

    private static void twentyOnes() {
        EDGE.of(39, "20 ONES, 8 within one another");
        BrowArmy x = sayer();
        EDGE.sentence(x, "grey", 1, GREY);
        EDGE.sentence(x, "grey" + " or grey".repeat(19), 20, GREY);
        EDGE.sentence(x, "grey" + " and grey".repeat(19), 20, GREY);
        EDGE.sentence(x, "idle" + " and idle".repeat(18) + " and grey", 20, GREY);
        EDGE.sentence(x, "not grey" + " or grey".repeat(18), 20, 7);
        EDGE.sentence(x, "(grey)" + " and grey".repeat(18), 20, GREY);
        EDGE.sentence(x, "(grey)or(grey)or(grey)or(grey)or(grey)or(grey)or(grey)or(grey)or(grey)or(grey)", 20, GREY);
        EDGE.of(39, "how many ONES (each not, bracket and other one)");
        EDGE.sentence(x, "not (grey or joined)", 4, 1);
        EDGE.sentence(x, "not not grey", 3, GREY);
        EDGE.sentence(x, "((grey))", 3, GREY);
    }

    private static void eightWithinOneAnother() {
        EDGE.of(39, "20 ONES, 8 within one another");
        BrowArmy x = sayer();
        EDGE.sentence(x, "not ".repeat(7) + "grey", 8, 3);
        EDGE.sentence(x, "(".repeat(7) + "grey" + ")".repeat(7), 8, GREY);
        EDGE.sentence(x, "(not ".repeat(3) + "(grey" + ")".repeat(4), 8, 3);
        // one behind another is not within it
        EDGE.sentence(x, "(".repeat(7) + "grey" + ")".repeat(7) + "or " + "not ".repeat(7) + "grey", 16, 7);
        EDGE.sentence(x, "(".repeat(7) + "grey or joined and idle" + ")".repeat(7), 10, GREY | JOINED);
    }

    private static void aNinthWithin() {
        EDGE.of(39, "a 21st ONE, a ninth within (at its first TOKEN)");
        BrowArmy x = sayer();
        EDGE.sentenceFault(x, "not ".repeat(8) + "grey", 32, 4);
        EDGE.sentenceFault(x, "not ".repeat(8) + "not", 32, 4);
        EDGE.sentenceFault(x, "(".repeat(8) + "grey" + ")".repeat(8), 8, 4);
        EDGE.sentenceFault(x, "(".repeat(9), 8, 4);
        EDGE.sentenceFault(x, "grey or " + "(".repeat(8) + "grey", 16, 4);
        EDGE.sentenceFault(x, "(".repeat(7) + "grey and not grey", 20, 4);
        EDGE.sentenceFault(x, "not ".repeat(8) + "brow", 32, 4);
        EDGE.sentenceFault(x, "not ".repeat(8), 32, 1);
        EDGE.sentenceFault(x, "not ".repeat(8) + "a", 32, 1);
    }

    private static void aTwentyFirstOne() {
        EDGE.of(39, "a 21st ONE, a ninth within (at its first TOKEN)");
        BrowArmy x = sayer();
        String twenty = "grey" + " or grey".repeat(19);
        EDGE.sentenceFault(x, twenty + " or grey", 160, 4);
        EDGE.sentenceFault(x, twenty + " or not grey", 160, 4);
        EDGE.sentenceFault(x, twenty + " or (grey)", 160, 4);
        EDGE.sentenceFault(x, twenty + " or under zz", 160, 4);
        EDGE.sentenceFault(x, twenty + " or", 159, 1);
        EDGE.sentenceFault(x, twenty + " or or", 160, 1);
        EDGE.sentenceFault(x, "grey" + " or grey".repeat(18) + " or not grey", 156, 4);
        EDGE.sentenceFault(x, "(grey)" + " or grey".repeat(18) + " and grey", 155, 4);
    }

    private static void andBindsMoreThanOr() {
        EDGE.of(39, "COND: ALL { 'or' ALL }. ALL: ONE { 'and' ONE }");
        BrowArmy x = sayer();
        EDGE.sentence(x, "number=0 or joined and grey", 3, 1);
        EDGE.sentence(x, "joined and grey or number=0", 3, 1);
        EDGE.sentence(x, "(number=0 or joined)and joined", 4, JOINED);
        EDGE.sentence(x, "not grey and joined", 3, JOINED);
        EDGE.sentence(x, "not(grey and joined)", 4, 7);
        EDGE.sentenceFault(x, "grey grey", 5, 1);
        EDGE.sentenceFault(x, "grey or", 7, 1);
        EDGE.sentenceFault(x, "or grey", 0, 1);
        EDGE.sentenceFault(x, "grey and or grey", 9, 1);
        EDGE.sentenceFault(x, "()", 1, 1);
        EDGE.sentenceFault(x, "(grey", 5, 1);
        EDGE.sentenceFault(x, "grey)", 4, 1);
        EDGE.sentenceFault(x, "grey;", 4, 1);
        EDGE.sentenceFault(x, "brow<=3", 5, 1);
        EDGE.sentenceFault(x, "brow 3", 5, 1);
        EDGE.sentenceFault(x, "brow<", 5, 1);
        EDGE.sentenceFault(x, "brow<a", 5, 1);
        EDGE.sentenceFault(x, "brow(3", 4, 1);
    }

    private static void threeSigns() {
        BrowArmy x = sayer();
        EDGE.of(39, "SIGN: < = >");
        for (int number = 0; number <= 3; number++) {
            EDGE.sentence(x, "number<" + number, 1, (1 << number) - 1);
            EDGE.sentence(x, "number=" + number, 1, number < 3 ? 1 << number : 0);
            EDGE.sentence(x, "number>" + number, 1, number < 3 ? 7 & ~((2 << number) - 1) : 0);
        }
        EDGE.of(39, "( 'brow' | 'heard' | 'lost' | 'number' ) SIGN NUMBER");
        for (String what : new String[] {"brow", "heard", "lost", "number"}) {
            EDGE.sentenceFault(x, what, what.length(), 1);
            EDGE.sentenceFault(x, what + " 1", what.length() + 1, 1);
            EDGE.sentenceFault(x, what + "!1", what.length(), 1);
            EDGE.sentenceFault(x, what + "<", what.length() + 1, 1);
            EDGE.sentenceFault(x, what + "<>1", what.length() + 1, 1);
            EDGE.sentenceFault(x, what + "=1000", what.length() + 1, 1);
        }
    }

    private static void browWithSoot() {
        EDGE.of(39, "(BROW with soot; LIFT that he HEARD, 0 none; how often he was LOST; his number)");
        BrowArmy x = sayer();
        EDGE.sentence(x, "brow<5", 1, 4);
        EDGE.sentence(x, "brow=5", 1, 2);
        EDGE.sentence(x, "brow>5", 1, 1);
        EDGE.sentence(x, "brow<0", 1, 0);
        EDGE.sentence(x, "brow>9", 1, 0);
        EDGE.sentence(x, "brow>8", 1, 1);
        x.soot(1);
        x.soot(2);
        x.soot(0);
        EDGE.sentence(x, "brow=8", 1, 2);
        EDGE.sentence(x, "brow=3", 1, 4);
        EDGE.sentence(x, "brow=9", 1, 1);
        EDGE.sentence(x, "brow>9", 1, 0);
    }

    private static void heardNoughtIsNone() {
        EDGE.of(39, "(BROW with soot; LIFT that he HEARD, 0 none; how often he was LOST; his number)");
        BrowArmy x = sayer();
        EDGE.sentence(x, "heard=0", 1, 7);
        for (int lift = 1; lift <= 3; lift++) {
            x.lift(0, lift);
            EDGE.sentence(x, "heard=" + lift, 1, 2);
            EDGE.sentence(x, "heard=0", 1, 5);
            EDGE.sentence(x, "heard<" + lift, 1, 5);
            EDGE.sentence(x, "heard>" + lift, 1, 0);
            x.undo();
        }
    }

    private static void lostAsOften() {
        EDGE.of(39, "(BROW with soot; LIFT that he HEARD, 0 none; how often he was LOST; his number)");
        BrowArmy x = sayer();
        for (int n = 0; n < 99; n++) {
            x.lift(0, 1);
            x.lift(0, 1);
        }
        EDGE.sentence(x, "lost=99", 1, 2);
        EDGE.sentence(x, "lost>98", 1, 2);
        EDGE.sentence(x, "lost=0", 1, 5);
        x.lift(0, 1);
        x.lift(0, 1);
        EDGE.sentence(x, "lost>99", 1, 0);
    }

    private static void hisNumber() {
        EDGE.of(39, "(BROW with soot; LIFT that he HEARD, 0 none; how often he was LOST; his number)");
        BrowArmy x = sayer();
        EDGE.sentence(x, "number=0", 1, 1);
        EDGE.sentence(x, "number=2", 1, 4);
        EDGE.sentence(x, "number=3", 1, 0);
        EDGE.sentence(x, "number<1", 1, 1);
        EDGE.sentence(x, "number>1", 1, 4);
        EDGE.sentence(x, "number<999", 1, 7);
    }

    private static void idleHasNoOrder() {
        EDGE.of(39, "'idle' (he has no ORDER)");
        BrowArmy x = sayer();
        EDGE.sentence(x, "idle", 1, 7);
        x.give(0, 0);
        EDGE.sentence(x, "idle", 1, 5);
        EDGE.sentence(x, "has o", 1, 2);
        EDGE.sentence(x, "has p", 1, 0);
        x.hours(1);
        EDGE.sentence(x, "idle", 1, 1);
        EDGE.sentence(x, "has o", 1, 6);
    }

    private static void underNotOverOthers() {
        EDGE.of(39, "'under' MAN");
        BrowArmy x = sayer();
        EDGE.sentence(x, "under a", 1, 2);
        EDGE.sentence(x, "under b", 1, 4);
        EDGE.sentence(x, "under c", 1, 0);
        // the first man, and several
        BrowArmy full = EDGE.army("man a 0 0 1;man b 0 0 1;man c 0 0 1;man d 0 0 1;man e 0 0 1;man f 0 0 1;man g 0 0 1;"
            + "man h 0 0 1;under a h;under c h;under g h;under h f;", 12);
        EDGE.sentence(full, "under h", 1, 69);
        EDGE.sentence(full, "under f", 1, 128);
    }

    private static void seesAnother() {
        EDGE.of(39, "'sees' MAN");
        BrowArmy x = EDGE.army("man a 0 0 1;man b 1 1 2;man c 4 1 9;man d 0 0 0;", 4);
        EDGE.sentence(x, "sees a", 1, 10);
        EDGE.sentence(x, "sees b", 1, 13);
        EDGE.sentence(x, "sees c", 1, 11);
        EDGE.sentence(x, "sees d", 1, 0);
        x.sleep(0);
        EDGE.sentence(x, "sees b", 1, 12);
        EDGE.sentence(x, "sees a", 1, 10);
        x.soot(3);
        EDGE.sentence(x, "sees d", 1, 6);
    }

    private static void aSentenceStays() {
        EDGE.of(39, "-1 less the place of a FAULT: it stays");
        BrowArmy x = sayer();
        EDGE.is("sentence() at 0", Due.sentence(x, "zz"), -1);
        EDGE.is("said(-1), there was none", x.said(-1), -1);
        EDGE.sentence(x, "joined or grey", 2, JOINED | GREY);
        EDGE.is("sentence() at 8", Due.sentence(x, "idle and"), -9);
        EDGE.is("men", Edge.said(x), JOINED | GREY);
        EDGE.is("sentence() at 200", Due.sentence(x, " ".repeat(201)), -201);
        EDGE.is("men", Edge.said(x), JOINED | GREY);
        Twins.same(EDGE, "sentence() with a fault", y -> {
            y.end(0);
            Due.sentence(y, "idle and under zz");
        }, y -> {
            y.end(0);
            Due.book(y, 1, "zz");
        });
    }

    private static void howManyOrTheKth() {
        EDGE.of(40, "MEN of whom it may be said: how many (k NONE), or the k-th");
        BrowArmy x = EDGE.army("man a 0 0 0;man b 0 0 0;man c 0 0 0;man d 0 0 0;man e 0 0 0;man f 0 0 0;man g 0 0 0;"
            + "man h 0 0 0 grey;", 8);
        EDGE.sentence(x, "idle", 1, 255);
        EDGE.is("said(-1)", x.said(-1), 8);
        for (int k = 0; k < 8; k++) {
            EDGE.is("said(" + k + ")", x.said(k), k);
        }
        EDGE.sentence(x, "grey", 1, 128);
        EDGE.is("said(-1)", x.said(-1), 1);
        EDGE.is("said(0)", x.said(0), 7);
        EDGE.is("said(1)", x.said(1), -1);
        EDGE.sentence(x, "joined", 1, 0);
        EDGE.is("said(-1) of nobody", x.said(-1), 0);
        EDGE.is("said(0) of nobody", x.said(0), -1);
    }

    private static void noSentence() {
        EDGE.of(40, "NONE: there is no SENTENCE, none such");
        BrowArmy x = sayer();
        for (int k = -2; k < 9; k++) {
            EDGE.is("said(" + k + ") without one", x.said(k), -1);
        }
        EDGE.sentence(x, "idle", 1, 7);
        for (int k : Edge.outside(-1, 2)) {
            EDGE.is("said(" + k + ")", x.said(k), -1);
            Twins.leaves(EDGE, "said(" + k + ")", -1, y -> y.said(k == 3 ? 9 : k));
        }
        Due.army(x, "man a 0 0 0;");
        EDGE.is("said(-1) of a new army", x.said(-1), -1);
        EDGE.is("said(0) of a new army", x.said(0), -1);
    }

    private static void saidOfMenAsTheyAre() {
        EDGE.of(40, "MEN of whom it may be said: how many (k NONE), or the k-th");
        BrowArmy nobody = new BrowArmy();
        EDGE.sentence(nobody, "idle or not idle", 3, 0);
        EDGE.is("said(-1) without men", nobody.said(-1), 0);
        BrowArmy x = sayer();
        EDGE.sentence(x, "asleep", 1, 0);
        x.sleep(2);
        EDGE.is("said(-1)", x.said(-1), 1);
        EDGE.is("said(0)", x.said(0), 2);
        x.undo();
        EDGE.is("said(-1)", x.said(-1), 0);
    }
}
