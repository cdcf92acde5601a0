/** Promises 41 and 42: images. */
public final class ImageTest {
    private static final Due DUE = new Due();
    private static final String ARMY = "man a 0 0 9;man b 0 1 5 joined;under b a;order o left right;foe 1 1;clear 3;rain 9;";

    public static void main(String[] args) {
        noSuchPlaces();
        allIsAsKept();
        whatWasToldStays();
        nothingCanBeUndone();
        twoPlaces();
        DUE.finish();
    }

    private static void noSuchPlaces() {
        BrowArmy x = new BrowArmy();
        for (int k : new int[] {-1, 2, Integer.MIN_VALUE, Integer.MAX_VALUE}) {
            DUE.is("image", x.image(k), false);
            DUE.is("restore", x.restore(k), false);
        }
        DUE.is("restore(0) of nothing", x.restore(0), false);
        DUE.is("restore(1) of nothing", x.restore(1), false);
        DUE.is("image(1)", x.image(1), true);
        DUE.is("restore(0) of nothing", x.restore(0), false);
        DUE.is("restore(1)", x.restore(1), true);
    }

    private static void allIsAsKept() {
        BrowArmy x = Due.of(ARMY);
        x.lift(0, 3);
        x.lift(0, 3);
        x.give(0, 0);
        x.soot(1);
        x.sleep(1);
        x.go(0, 0);
        x.hours(4);
        Due.sentence(x, "sooted");
        DUE.is("image(0)", x.image(0), true);
        Due.army(x, "man z 9 9 0;");
        Due.sentence(x, "asleep or idle");
        x.hours(30);
        DUE.is("restore(0)", x.restore(0), true);
        int[] counts = {2, 1, 1, 3, 9};
        for (int what = 0; what < counts.length; what++) {
            DUE.is("count(" + what + ")", x.count(what), counts[what]);
        }
        int[] now = {4, 2, 2, 2, 0, 1, 6};
        for (int what = 0; what < now.length; what++) {
            DUE.is("now(" + what + ")", x.now(what), now[what]);
        }
        int[] man = {0, 1, 8, 1, 1, 0, 0, 0, 1, 0};
        for (int what = 0; what < man.length; what++) {
            DUE.is("man(1, " + what + ")", x.man(1, what), man[what]);
        }
        DUE.is("man(0, 0)", x.man(0, 0), 1);
        DUE.is("said(0)", x.said(0), 1);
        DUE.is("said(-1)", x.said(-1), 1);
        DUE.isText("report(1)", Due.reportOf(x, 1), "b has o asleep");
        DUE.is("foes(0)", x.foes(0), 1);
        // what is done then leaves the image
        x.wake(1);
        x.hours(5);
        Due.sentence(x, "idle");
        x.restore(0);
        DUE.is("man(1, 3) again", x.man(1, 3), 1);
        DUE.is("now(2) again", x.now(2), 2);
        DUE.is("said(0) again", x.said(0), 1);
        // a sentence that was none is none again
        BrowArmy y = Due.of(ARMY);
        y.image(0);
        Due.sentence(y, "idle");
        y.restore(0);
        DUE.is("said(-1)", y.said(-1), -1);
    }

    private static void whatWasToldStays() {
        BrowArmy x = Due.of(ARMY);
        x.image(0);
        x.go(0, 1);
        x.stand(0);
        Due.lay(x, 1, 3);
        x.meant();
        Due.lay(x, 1, 0);
        x.scratch();
        x.report(1);
        Due.book(x, 0, "a wakes;");
        Due.sentence(x, "idle and");
        Due.lay(x, "abc");
        x.restore(0);
        DUE.is("count(5)", x.count(5), 3);
        DUE.is("cell(1)", x.cell(1), 1);
        DUE.is("wrong()", x.wrong(), 1);
        DUE.is("look()", x.look(), 0);
        DUE.is("ask()", x.ask(), 0);
        DUE.is("byteAt(0)", x.byteAt(0), 'b');
        DUE.is("told(0)", x.told(0), 31);
        DUE.is("fault()", x.fault(), 1);
    }

    private static void nothingCanBeUndone() {
        BrowArmy x = Due.of(ARMY);
        x.soot(0);
        x.image(0);
        DUE.is("undo() behind image()", x.undo(), 0);
        x.soot(0);
        x.sleep(0);
        x.restore(1);
        DUE.is("undo() behind a restore() of nothing", x.undo(), 1);
        x.restore(0);
        DUE.is("undo() behind restore()", x.undo(), -1);
        DUE.is("now(2)", x.now(2), 1);
    }

    private static void twoPlaces() {
        BrowArmy x = Due.of(ARMY);
        x.image(0);
        x.go(0, 0);
        x.image(1);
        x.go(0, 0);
        x.restore(0);
        DUE.is("man(0, 0) of place 0", x.man(0, 0), 0);
        x.restore(1);
        DUE.is("man(0, 0) of place 1", x.man(0, 0), 1);
        x.go(0, 1);
        x.image(1);
        x.go(0, 1);
        x.restore(1);
        DUE.is("man(0, 1) kept anew", x.man(0, 1), 1);
    }
}
