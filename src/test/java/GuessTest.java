/** Promises 26 to 31, 33 and 34: what was meant, who it was, and reports. */
public final class GuessTest {
    private static final Due DUE = new Due();

    public static void main(String[] args) {
        meantNotAsTold();
        meantByFewestWrong();
        lookAtTheLiftThatTells();
        newLifts();
        scratchNotAsTold();
        scratchByWhoRead();
        askWhoHalves();
        reports();
        DUE.finish();
    }

    private static int meant(BrowArmy x, int... bytes) {
        Due.lay(x, bytes);
        return x.meant();
    }

    private static int scratch(BrowArmy x, int... bytes) {
        Due.lay(x, bytes);
        return x.scratch();
    }

    private static void meantNotAsTold() {
        BrowArmy x = Due.of("order a left left;order b left right;");
        DUE.is("wrong() ahead of any", x.wrong(), -1);
        DUE.is("look() ahead of any", x.look(), -1);
        DUE.is("meant() of nothing", meant(x), -1);
        DUE.is("meant() of one byte", meant(x, 1), -1);
        DUE.is("count(5)", x.count(5), 0);
        DUE.is("meant() of three bytes", meant(x, 1, 1, 1), -1);
        DUE.is("meant() of a fourth lift", meant(x, 1, 4), -1);
        DUE.is("meant() of 255", meant(x, 255, 1), -1);
        DUE.is("meant() of seven pairs", meant(x, 1, 1, 1, 1, 1, 1, 1, 1, 1, 1, 1, 1, 1, 1), -1);
        DUE.is("wrong() still", x.wrong(), -1);
        DUE.is("meant() of six pairs", meant(x, 1, 1, 1, 1, 1, 1, 1, 1, 1, 1, 1, 2), 1);
        DUE.is("wrong()", x.wrong(), 1);
        meant(x, 9, 9);
        DUE.is("wrong() stays", x.wrong(), 1);
        BrowArmy none = Due.of("man a 0 0 0;");
        DUE.is("meant() without orders", meant(none, 1, 1), -1);
        DUE.is("count(5) then", none.count(5), 0);
        DUE.is("wrong() without orders", none.wrong(), -1);
    }

    private static void meantByFewestWrong() {
        BrowArmy x = Due.of("order a left left;order b left right;order c both right;");
        DUE.is("meant()", meant(x, 1, 2), 2);
        DUE.is("wrong()", x.wrong(), 0);
        DUE.is("meant() unseen", meant(x, 0, 0), 7);
        DUE.is("wrong() unseen", x.wrong(), 0);
        DUE.is("meant() half seen", meant(x, 0, 2), 6);
        DUE.is("meant() all wrong", meant(x, 2, 3), 7);
        DUE.is("wrong() all wrong", x.wrong(), 2);
        DUE.is("meant() of three", meant(x, 1, 2, 3, 2, 0, 1), 6);
        DUE.is("wrong() of three", x.wrong(), 2);
        DUE.is("meant() of three others", meant(x, 3, 2, 3, 1, 1, 2), 4);
        DUE.is("wrong() of three others", x.wrong(), 2);
    }

    private static void lookAtTheLiftThatTells() {
        BrowArmy x = Due.of("order a left left;order b left right;order c both right;order d right right;");
        meant(x, 1, 0);
        DUE.is("look() of a, b", x.look(), 1);
        meant(x, 0, 2);
        DUE.is("look() of b, c, d", x.look(), 0);
        meant(x, 0, 0);
        DUE.is("look() of all", x.look(), 0);
        meant(x, 1, 1);
        DUE.is("look() of one", x.look(), 0);
        meant(x, 1, 0);
        Due.army(x, "");
        DUE.is("look() stays", x.look(), 1);
        DUE.is("wrong() stays", x.wrong(), 0);
        BrowArmy z = Due.of("order a both left;order b both right;order c left left;");
        meant(z, 0, 0);
        DUE.is("look() of like ones", z.look(), 0);
        meant(z, 3, 0);
        DUE.is("look() of two with the third lift", z.look(), 1);
        BrowArmy y = Due.of("order a left left;order b left right;order c both right;order d both left;");
        meant(y, 0, 0);
        DUE.is("look() of like ones", y.look(), 0);
    }

    private static void newLifts() {
        DUE.is("code() without orders", Due.of("").code(), 5);
        DUE.is("code()", Due.of("order a left left;").code(), 10);
        DUE.is("code()", Due.of("order a right right;").code(), 5);
        DUE.is("code()", Due.of("order a right right;order b left left;").code(), 15);
        DUE.is("code() by one lift", Due.of("order a right right;order b left left;order c both both;").code(), 6);
        DUE.is("code() of two left", Due.of("order a left left;order b left right;order c left both;order d right left;"
            + "order e right right;order f right both;order g both left;").code(), 14);
    }

    private static final String FOUR = "man a 0 0 9;man b 0 1 9;man c 0 2 9;man d 0 3 0;under b a;under c a;under d b;";

    private static void scratchNotAsTold() {
        BrowArmy x = Due.of(FOUR);
        DUE.is("ask() ahead of any", x.ask(), -1);
        DUE.is("scratch() of nothing", scratch(x), -1);
        DUE.is("scratch() of one byte", scratch(x, 0), -1);
        DUE.is("count(5)", x.count(5), 0);
        DUE.is("scratch() of a fifth man", scratch(x, 4, 0), -1);
        DUE.is("scratch() of 2", scratch(x, 0, 2), -1);
        DUE.is("scratch() of 255", scratch(x, 255, 0), -1);
        DUE.is("scratch() of nine", scratch(x, 0, 0, 0, 0, 0, 0, 0, 0, 0, 0, 0, 0, 0, 0, 0, 0, 0, 0), -1);
        DUE.is("ask() still", x.ask(), -1);
        DUE.is("scratch() of eight", scratch(x, 0, 0, 0, 0, 0, 0, 0, 0, 0, 0, 0, 0, 0, 0, 0, 0), 15);
        DUE.is("scratch() without men", scratch(Due.of(""), 0, 0), -1);
    }

    private static void scratchByWhoRead() {
        BrowArmy x = Due.of(FOUR);
        DUE.is("scratch() b read", scratch(x, 1, 1), 1);
        DUE.is("scratch() b did not", scratch(x, 1, 0), 14);
        DUE.is("scratch() d read", scratch(x, 3, 1), 2);
        DUE.is("scratch() b, c read", scratch(x, 1, 1, 2, 1), 1);
        DUE.is("scratch() b read, c did not", scratch(x, 1, 1, 2, 0), 0);
        DUE.is("scratch() b did and did not", scratch(x, 1, 1, 1, 0), 0);
        DUE.is("scratch() b, d did not", scratch(x, 1, 0, 3, 0), 12);
        x.sleep(1);
        DUE.is("scratch() b is asleep", scratch(x, 1, 1), 0);
        DUE.is("scratch() c read, b did not", scratch(x, 2, 1, 1, 0), 1);
    }

    private static void askWhoHalves() {
        BrowArmy x = Due.of(FOUR);
        scratch(x, 0, 0);
        DUE.is("ask() of four", x.ask(), 1);
        scratch(x, 1, 0);
        DUE.is("ask() of b, c, d", x.ask(), 3);
        scratch(x, 3, 1);
        DUE.is("ask() of one", x.ask(), 0);
        scratch(x, 1, 0);
        scratch(x, 1, 1, 2, 0);
        DUE.is("ask() leaves scratch() of 0", x.ask(), 3);
        scratch(x, 9, 9);
        x.sleep(3);
        DUE.is("ask() as it was then", x.ask(), 3);
        Due.army(x, "");
        DUE.is("ask() stays", x.ask(), 3);
        BrowArmy y = Due.of(FOUR);
        y.sleep(1);
        scratch(y, 0, 0);
        DUE.is("ask() of four, b asleep", y.ask(), 2);
    }

    private static void reports() {
        BrowArmy x = Due.of("man gog 0 0 9;man ab 0 1 9;under ab gog;order halting left right;order go both both;");
        DUE.is("byteAt(0) ahead of any", x.byteAt(0), -1);
        DUE.is("report(-1)", x.report(-1), -1);
        DUE.is("report(2)", x.report(2), -1);
        DUE.is("report(0)", x.report(0), 8);
        DUE.is("byteAt(0)", x.byteAt(0), 'g');
        DUE.is("byteAt(7)", x.byteAt(7), 'e');
        DUE.is("byteAt(8)", x.byteAt(8), -1);
        DUE.is("byteAt(-1)", x.byteAt(-1), -1);
        x.report(9);
        DUE.is("byteAt(0) stays", x.byteAt(0), 'g');
        DUE.isText("idle", Due.reportOf(x, 1), "ab idle");
        x.lift(0, 2);
        DUE.isText("heard", Due.reportOf(x, 1), "ab idle heard right");
        x.sleep(1);
        DUE.isText("asleep", Due.reportOf(x, 1), "ab idle heard right asleep");
        x.wake(1);
        x.lift(0, 2);
        x.give(0, 0);
        DUE.isText("has", Due.reportOf(x, 1), "ab has halting");
        x.lift(0, 1);
        x.sleep(1);
        DUE.isText("all", Due.reportOf(x, 1), "ab has halting heard left asleep");
        x.wake(1);
        x.lift(0, 1);
        x.lift(0, 3);
        DUE.isText("both", Due.reportOf(x, 1), "ab has halting heard both");
        Due.army(x, "");
        DUE.is("byteAt(1) stays", x.byteAt(1), 'b');
        BrowArmy y = Due.of("man abcdefg 0 0 9;man tuvwxyz 0 1 9;under tuvwxyz abcdefg;order zzzzzzz right right;");
        y.give(0, 0);
        y.lift(0, 2);
        y.sleep(1);
        DUE.isText("the longest", Due.reportOf(y, 1), "tuvwxyz has zzzzzzz heard right asleep");
    }
}
