import java.util.StringJoiner;

/**
 * Two objects made by the same calls: one has a call more, which must leave everything as it was. All that
 * can be asked is asked of both, and what undo(), restore() and the tape still hold, each time of new
 * objects, so that no object has more than 512 calls.
 */
final class Twins {
    interface Calls {
        void on(BrowArmy x);
    }

    private interface Question {
        String of(BrowArmy x);
    }

    private static final String ARMY = "man a 5 5 9;man b 6 5 7 joined;man c 5 9 2;man d 6 6 0 grey;man e 5 6 1;"
        + "under b a;under c a;under d b;under e a;order o left right;order p both both;order q right left;"
        + "foe 9 9;foe 6 6;clear 2;rain 7;";
    private static final String ON_THE_TAPE = "man zed 1 2 3;man yon 4 5 6 joined grey;order w both left;";

    private Twins() {
    }

    /** An object of which every call has something to tell. */
    static BrowArmy rich() {
        BrowArmy x = Due.of(ARMY);
        x.sleep(2);
        Due.sentence(x, "asleep or sees a");
        x.image(1);
        x.lift(0, 1);
        x.lift(0, 1);
        x.give(0, 1);
        x.image(0);
        x.hours(2);
        x.soot(3);
        x.go(0, 2);
        x.give(0, 2);
        x.lift(0, 3);
        Due.sentence(x, "sooted or heard=3");
        x.report(1);
        x.stand(1);
        Due.lay(x, 1, 3);
        x.meant();
        Due.lay(x, 1, 0);
        x.scratch();
        Due.book(x, 0, "a gives p;hour 2;b wakes;");
        Due.sentence(x, "has e");
        Due.lay(x, ON_THE_TAPE);
        return x;
    }

    static String richTape() {
        return ON_THE_TAPE;
    }

    /** Of the one the first calls, of the other the second ones: then both are the same. */
    static void same(Edge edge, String call, Calls first, Calls second) {
        compare(edge, call, first, second, Twins::allTold);
        for (int n = 0; n <= 9; n++) {
            int times = n;
            compare(edge, call + ", undone " + n + " times", first, second, x -> undone(x, times) + stateOf(x));
        }
        for (int k = 0; k <= 1; k++) {
            int place = k;
            compare(edge, call + ", restored " + k, first, second, x -> x.restore(place) + " " + x.undo() + allTold(x));
        }
        compare(edge, call + ", its tape an army", first, second, x -> x.army() + allTold(x) + names(x));
    }

    /** The call answers this and leaves everything as it was. */
    static void leaves(Edge edge, String call, int want, java.util.function.ToIntFunction<BrowArmy> refused) {
        edge.is(call, refused.applyAsInt(rich()), want);
        same(edge, call, refused::applyAsInt, x -> { });
    }

    /** The call answers this and leaves everything but the tape, which is empty then. */
    static void leavesAllButTheTape(Edge edge, String call, int want, java.util.function.ToIntFunction<BrowArmy> refused) {
        edge.is(call, refused.applyAsInt(rich()), want);
        same(edge, call, refused::applyAsInt, x -> x.end(0));
    }

    private static void compare(Edge edge, String call, Calls first, Calls second, Question question) {
        BrowArmy x = rich();
        first.on(x);
        BrowArmy y = rich();
        second.on(y);
        edge.isText(call + " and all else", question.of(x), question.of(y));
    }

    // ---- questions

    private static String undone(BrowArmy x, int times) {
        StringJoiner told = new StringJoiner(" ");
        for (int n = 0; n < times; n++) {
            told.add("undo " + x.undo());
        }
        return told.toString();
    }

    /** Without a call that changes anything. */
    private static String allTold(BrowArmy x) {
        StringJoiner told = new StringJoiner(" ");
        told.add("fault " + x.fault()).add("cell " + x.cell(0) + "," + x.cell(1)).add("wrong " + x.wrong())
            .add("look " + x.look()).add("ask " + x.ask());
        for (int what = 0; what < 4; what++) {
            told.add("told " + x.told(what));
        }
        for (int i = 0; i < 40; i++) {
            told.add("byte " + x.byteAt(i));
        }
        for (int k = -1; k < 6; k++) {
            told.add("said " + x.said(k));
        }
        return told + stateOf(x);
    }

    private static String names(BrowArmy x) {
        StringJoiner told = new StringJoiner(", ", " ", "");
        for (int m = 0; m < x.count(0); m++) {
            told.add(Due.reportOf(x, m));
        }
        return told.toString();
    }

    private static String stateOf(BrowArmy x) {
        StringJoiner told = new StringJoiner(" ");
        for (int what = 0; what < 6; what++) {
            told.add("count " + x.count(what));
        }
        for (int what = 0; what < 7; what++) {
            told.add("now " + x.now(what));
        }
        for (int m = 0; m < x.count(0); m++) {
            for (int what = 0; what < 10; what++) {
                told.add("man " + x.man(m, what));
            }
            told.add("sees " + x.sees(m)).add("reads " + x.reads(m)).add("foes " + x.foes(m));
        }
        for (int o = 0; o < x.count(1); o++) {
            for (int what = 0; what < 3; what++) {
                told.add("order " + x.order(o, what));
            }
        }
        return told.add("unrest " + x.unrest()).add("code " + x.code()).add("said " + x.said(-1)).toString();
    }
}
