/** Boundary cases of a new object, the tape, faults told, images and counts (promises 1 to 5 and 41 to 43). */
public final class EdgeTapeTest {
    private static final Edge EDGE = new Edge();
    private static final String ARMY = "man a 0 0 9;man b 0 1 5 joined;under b a;order o left right;foe 1 1;clear 3;rain 9;";

    public static void main(String[] args) {
        aNewObject();
        theTape();
        anArmyStays();
        faultOfTheLatest();
        images();
        counts();
        EDGE.finish();
    }

    private static void theTape() {
        feedToNineHundredForty();
        feedBeyondIt();
        theHighestFirst();
        endOfTheFirstBytes();
        endOfMoreOrFewer();
        theTapeIsEmptyThen();
    }

    private static void anArmyStays() {
        armyOfAFaultStays();
        placeOfAnArmysFault();
    }

    private static void images() {
        twoPlaces();
        noSuchPlace();
        asKept();
        nothingIsKept();
        otherCallsStay();
        nothingCanBeUndone();
    }

    // ---- a new object

    private static void aNewObject() {
        EDGE.of(1, "An ARMY without MEN; an empty tape");
        BrowArmy x = new BrowArmy();
        int[] counts = {0, 0, 0, 2, 6, 0};
        for (int what = 0; what < counts.length; what++) {
            EDGE.is("count(" + what + ")", x.count(what), counts[what]);
        }
        for (int what = 0; what < 7; what++) {
            EDGE.now(x, what, 0);
        }
        int[] none = {x.order(0, 0), x.lift(0, 1), x.give(0, 0), x.sleep(0), x.wake(0), x.soot(0), x.go(0, 0), x.undo(),
            x.sees(0), x.reads(0), x.foes(0), x.reach(0, 0), x.soon(0, 0), x.best(0), x.stand(0), x.hide(0), x.cell(0),
            x.cell(1), x.meant(), x.wrong(), x.look(), x.scratch(), x.ask(), x.report(0), x.byteAt(0), x.odds(0, 1, 1),
            x.told(0), x.told(1), x.told(2), x.told(3), x.said(-1), x.said(0), x.sentence()};
        for (int i = 0; i < none.length; i++) {
            EDGE.is("none such, " + i, none[i], -1);
        }
        EDGE.is("fault() of an empty sentence", x.fault(), 1);
        EDGE.noMan(x, 0, 0);
        EDGE.is("unrest()", x.unrest(), 0);
        EDGE.is("code()", x.code(), 5);
        EDGE.is("end(0)", x.end(0), true);
        EDGE.is("end(1)", x.end(1), false);
        EDGE.is("restore(0)", x.restore(0), false);
        EDGE.is("restore(1)", x.restore(1), false);
        EDGE.is("army()", x.army(), 0);
        EDGE.is("book(1)", x.book(1), -1);
        EDGE.is("fault()", x.fault(), 0);
    }

    // ---- the tape

    private static void feedToNineHundredForty() {
        EDGE.of(2, "how many it has; NONE, and none come, if it would have more than 940");
        BrowArmy x = new BrowArmy();
        for (int n = 1; n <= 47; n++) {
            EDGE.is("feed", x.feed(0, 0, 0, 0, 0), 20 * n);
            EDGE.is("count(5)", x.count(5), 20 * n);
        }
        EDGE.is("feed at 940", x.feed(0, 0, 0, 0, 0), -1);
        EDGE.is("count(5)", x.count(5), 940);
        for (int length : new int[] {939, 921}) {
            x.end(length);
            EDGE.is("feed at " + length, x.feed(0, 0, 0, 0, 0), -1);
            EDGE.is("count(5)", x.count(5), length);
        }
        x.end(920);
        EDGE.is("feed at 920", x.feed(0, 0, 0, 0, 0), 940);
        x.end(919);
        EDGE.is("feed at 919", x.feed(0, 0, 0, 0, 0), 939);
    }

    private static void feedBeyondIt() {
        EDGE.of(2, "NONE, and none come, if it would have more than 940");
        BrowArmy x = new BrowArmy();
        Due.lay(x, Due.padded("rain 7;", 900));
        x.feed(0x20202020, 0x20202020, 0x20202020, 0x20202020, 0x20202020);
        x.feed(0x20202020, 0x20202020, 0x20202020, 0x20202020, 0x20202020);
        EDGE.is("feed at 940", x.feed(-1, -1, -1, -1, -1), -1);
        x.end(900);
        EDGE.is("army() of what was there", x.army(), 1);
        EDGE.is("count(4)", x.count(4), 7);
        Twins.same(EDGE, "feed beyond 940", y -> {
            fill(y);
            y.feed(-1, -1, -1, -1, -1);
            y.end(Twins.richTape().length());
        }, y -> { });
    }

    private static void fill(BrowArmy x) {
        for (int n = 0; n < 60; n++) {
            x.feed(0, 0, 0, 0, 0);
        }
    }

    private static void theHighestFirst() {
        EDGE.of(2, "Twenty bytes come behind the tape, of each number the highest first");
        String text = "man q 7 8 9;rain 17;";
        BrowArmy x = new BrowArmy();
        int[] five = new int[5];
        for (int i = 0; i < 20; i++) {
            five[i / 4] |= text.charAt(i) << (24 - 8 * (i % 4));
        }
        EDGE.is("feed", x.feed(five[0], five[1], five[2], five[3], five[4]), 20);
        EDGE.is("army()", x.army(), 2);
        EDGE.is("count(4)", x.count(4), 17);
        EDGE.man(x, 0, 1, 8);
        // bytes of 128 and more are no less bytes
        for (int i = 0; i < 20; i++) {
            int[] wild = five.clone();
            wild[i / 4] = wild[i / 4] & ~(255 << (24 - 8 * (i % 4))) | 233 << (24 - 8 * (i % 4));
            x.feed(wild[0], wild[1], wild[2], wild[3], wild[4]);
            // a word that it cuts can't come
            int place = i < 3 ? 0 : i >= 12 && i < 16 ? 12 : i;
            EDGE.is("army() with byte 233 at " + i, x.army(), -1 - place);
        }
        EDGE.of(2, "Twenty bytes come behind the tape");
        x.feed(five[0], five[1], five[2], 0, 0);
        x.end(12);
        x.feed('r' << 24 | 'a' << 16 | 'i' << 8 | 'n', ' ' << 24 | '5' << 16 | ';' << 8, 0, 0, 0);
        x.end(19);
        EDGE.is("army() of both", x.army(), 2);
        EDGE.is("count(4)", x.count(4), 5);
    }

    private static void endOfTheFirstBytes() {
        EDGE.of(3, "The tape has its first n bytes alone: true");
        BrowArmy x = new BrowArmy();
        Due.lay(x, "rain 3;clear 4;foe 1 1;");
        EDGE.is("end(23), all", x.end(23), true);
        EDGE.is("end(15)", x.end(15), true);
        EDGE.is("count(5)", x.count(5), 15);
        EDGE.is("army()", x.army(), 2);
        EDGE.is("count(2)", x.count(2), 0);
        Due.lay(x, "rain 3;");
        EDGE.is("end(0)", x.end(0), true);
        EDGE.is("army()", x.army(), 0);
        EDGE.is("count(4)", x.count(4), 6);
        // what was cut off does not come back
        Due.lay(x, "rain 3;clear 4;");
        x.end(7);
        EDGE.is("end(15)", x.end(15), false);
        EDGE.is("army()", x.army(), 1);
    }

    private static void endOfMoreOrFewer() {
        EDGE.of(3, "false, if it has not so many, or n is below 0");
        int length = Twins.richTape().length();
        for (int n : Edge.outside(0, length)) {
            Twins.leaves(EDGE, "end(" + n + ")", 0, x -> x.end(n) ? 1 : 0);
        }
        Twins.leaves(EDGE, "end() of all", 1, x -> x.end(length) ? 1 : 0);
        BrowArmy full = new BrowArmy();
        fill(full);
        EDGE.is("end(941)", full.end(941), false);
        EDGE.is("end(940)", full.end(940), true);
        EDGE.is("end(-1)", full.end(-1), false);
        EDGE.is("count(5)", full.count(5), 940);
    }

    private static void theTapeIsEmptyThen() {
        EDGE.of(4, "The tape (empty then, here and below) is the ARMY now");
        BrowArmy x = EDGE.army(ARMY, 7);
        String[] tapes = {"idle", "a sleeps;", "?", "\1\1", "\0\1"};
        for (String tape : tapes) {
            Due.lay(x, tape);
            x.sentence();
            EDGE.is("count(5) behind sentence()", x.count(5), 0);
            Due.lay(x, tape);
            x.book(0);
            EDGE.is("count(5) behind book(0)", x.count(5), 0);
            Due.lay(x, tape);
            x.book(1);
            EDGE.is("count(5) behind book(1)", x.count(5), 0);
            Due.lay(x, tape);
            x.meant();
            EDGE.is("count(5) behind meant()", x.count(5), 0);
            Due.lay(x, tape);
            x.scratch();
            EDGE.is("count(5) behind scratch()", x.count(5), 0);
            Due.lay(x, tape);
            x.army();
            EDGE.is("count(5) behind army()", x.count(5), 0);
        }
        BrowArmy full = EDGE.army(ARMY, 7);
        fill(full);
        full.army();
        EDGE.is("count(5) behind army() of a full tape", full.count(5), 0);
        EDGE.is("feed then", full.feed(0, 0, 0, 0, 0), 20);
    }

    // ---- an army with a fault

    private static void armyOfAFaultStays() {
        EDGE.of(4, "how many LINES; -1 less the place of a FAULT: it stays");
        String[] texts = {"?", "man b 0 0 0;foe 1 1;foe 31 0;", "man b 0 0 0;man b 0 0 0;", "foe 0 0;".repeat(5)};
        String[] asFaulty = {"?", "hour 0;", "zz", "hour 1;".repeat(41)};
        for (int i = 0; i < texts.length; i++) {
            String text = texts[i];
            String other = asFaulty[i];
            Twins.same(EDGE, "army() of '" + text + "'", x -> {
                x.end(0);
                Due.army(x, text);
            }, x -> {
                x.end(0);
                Due.book(x, 0, other);
            });
        }
    }

    private static void placeOfAnArmysFault() {
        EDGE.of(4, "-1 less the place of a FAULT");
        BrowArmy x = new BrowArmy();
        EDGE.is("army() at 0", Due.army(x, "?"), -1);
        EDGE.is("army() at 1", Due.army(x, "\n?"), -2);
        EDGE.is("army() at 900", Due.army(x, " ".repeat(940)), -901);
        EDGE.is("army() at 899", Due.army(x, " ".repeat(899) + "?"), -900);
    }

    private static void faultOfTheLatest() {
        EDGE.of(5, "The kind of the FAULT of the latest army(), book() or sentence() (a book() of -1000 leaves it); 0 without one and ahead of any");
        BrowArmy x = new BrowArmy();
        EDGE.is("fault() ahead of any", x.fault(), 0);
        Due.army(x, "rain 31;");
        EDGE.is("fault() of army()", x.fault(), 2);
        Due.army(x, ARMY);
        EDGE.is("fault() without one", x.fault(), 0);
        Due.book(x, 0, "zz sleeps;");
        EDGE.is("fault() of book()", x.fault(), 3);
        x.book(2);
        x.book(-1);
        EDGE.is("fault() behind -1000", x.fault(), 3);
        Due.sentence(x, "idle");
        EDGE.is("fault() without one", x.fault(), 0);
        x.book(2);
        EDGE.is("fault() behind -1000", x.fault(), 0);
        Due.sentence(x, "idle" + " or idle".repeat(20));
        EDGE.is("fault() of sentence()", x.fault(), 4);
        Due.lay(x, 9, 9);
        x.meant();
        x.scratch();
        x.lift(9, 9);
        EDGE.is("fault() of other calls", x.fault(), 4);
        // a book that is wrong has no fault
        EDGE.is("book(0)", Due.book(x, 0, "a wakes;"), 0);
        EDGE.is("fault() of it", x.fault(), 0);
    }

    // ---- images

    private static void twoPlaces() {
        EDGE.of(41, "are kept in place k (0, 1): true; false: no such one");
        BrowArmy x = EDGE.army(ARMY, 7);
        EDGE.is("image(0)", x.image(0), true);
        x.go(0, 0);
        EDGE.is("image(1)", x.image(1), true);
        x.go(0, 0);
        EDGE.is("restore(0)", x.restore(0), true);
        EDGE.man(x, 0, 0, 0);
        EDGE.is("restore(1)", x.restore(1), true);
        EDGE.man(x, 0, 0, 1);
        EDGE.is("restore(0) again", x.restore(0), true);
        EDGE.man(x, 0, 0, 0);
        // kept anew
        x.go(0, 1);
        x.image(0);
        x.go(0, 1);
        x.restore(0);
        EDGE.man(x, 0, 1, 1);
        x.restore(1);
        EDGE.man(x, 0, 1, 0);
        Twins.same(EDGE, "image(0) of an image", y -> {
            y.restore(0);
            y.image(0);
        }, y -> y.restore(0));
    }

    private static void noSuchPlace() {
        EDGE.of(42, "false: no such one, or nothing is kept there");
        for (int k : Edge.outside(0, 1)) {
            Twins.leaves(EDGE, "image(" + k + ")", 0, x -> x.image(k) ? 1 : 0);
            Twins.leaves(EDGE, "restore(" + k + ")", 0, x -> x.restore(k) ? 1 : 0);
        }
    }

    private static void nothingIsKept() {
        EDGE.of(42, "false: no such one, or nothing is kept there");
        BrowArmy x = EDGE.army(ARMY, 7);
        x.sleep(0);
        Due.lay(x, "idle");
        EDGE.is("restore(0)", x.restore(0), false);
        EDGE.is("restore(1)", x.restore(1), false);
        EDGE.is("image(1)", x.image(1), true);
        EDGE.is("restore(0)", x.restore(0), false);
        EDGE.now(x, 1, 1);
        EDGE.is("sentence() of the tape", x.sentence(), 1);
        EDGE.is("undo()", x.undo(), 0);
        EDGE.is("restore(1)", x.restore(1), true);
        EDGE.now(x, 1, 1);
        BrowArmy y = EDGE.army(ARMY, 7);
        y.image(0);
        EDGE.is("restore(1)", y.restore(1), false);
    }

    private static void asKept() {
        EDGE.of(41, "ARMY, all that is so and the SENTENCE are kept in place k");
        BrowArmy x = EDGE.army(ARMY, 7);
        x.lift(0, 1);
        x.lift(0, 1);
        x.give(0, 0);
        x.soot(1);
        x.sleep(1);
        x.go(0, 1);
        Due.sentence(x, "joined");
        x.image(0);
        Due.army(x, "");
        x.image(1);
        x.hours(60);
        EDGE.is("restore(0)", x.restore(0), true);
        int[] counts = {2, 1, 1, 3, 9, 0};
        for (int what = 0; what < counts.length; what++) {
            EDGE.is("count(" + what + ")", x.count(what), counts[what]);
        }
        int[] now = {0, 2, 2, 2, 2, 1, 4};
        for (int what = 0; what < now.length; what++) {
            EDGE.now(x, what, now[what]);
        }
        int[] man = {0, 1, 8, 1, 1, 0, 0, 1, 1, 0};
        for (int what = 0; what < man.length; what++) {
            EDGE.man(x, 1, what, man[what]);
        }
        EDGE.man(x, 0, 1, 1);
        EDGE.is("men of the sentence", Edge.said(x), 2);
        EDGE.is("foes(0)", x.foes(0), 1);
        EDGE.is("book(0), names are as kept", Due.book(x, 0, "b wakes;a gives o;"), -1);
        EDGE.is("restore(1) of an empty army", x.restore(1), true);
        EDGE.is("count(0)", x.count(0), 0);
        EDGE.is("said(-1), no sentence was kept", x.said(-1), -1);
        EDGE.now(x, 0, 0);
    }

    private static void otherCallsStay() {
        EDGE.of(42, "(the tape, and what other calls told last, stays; nothing can be undone)");
        BrowArmy x = EDGE.army(ARMY, 7);
        x.image(0);
        x.go(0, 1);
        x.stand(0);
        Due.lay(x, 1, 3);
        x.meant();
        Due.lay(x, 1, 0);
        x.scratch();
        x.report(1);
        Due.book(x, 0, "a gives o;hour 4;a wakes;");
        Due.sentence(x, "idle and");
        Due.lay(x, "joined");
        EDGE.is("restore(0)", x.restore(0), true);
        int[] stays = {x.count(5), x.cell(0), x.cell(1), x.wrong(), x.look(), x.ask(), x.byteAt(0), x.byteAt(6), x.told(0),
            x.told(1), x.told(2), x.told(3), x.fault()};
        int[] due = {6, 0, 1, 1, 0, 0, 'b', -1, 31, 2, 4, 2, 1};
        for (int i = 0; i < due.length; i++) {
            EDGE.is("what stays, " + i, stays[i], due[i]);
        }
        EDGE.is("sentence() of the tape", x.sentence(), 1);
        EDGE.is("said(0)", x.said(0), 1);
    }

    private static void nothingCanBeUndone() {
        EDGE.of(42, "nothing can be undone");
        BrowArmy x = EDGE.army(ARMY, 7);
        for (int n = 0; n < 10; n++) {
            x.go(0, 0);
        }
        x.image(0);
        EDGE.is("undo() behind image()", x.undo(), 7);
        x.restore(0);
        EDGE.is("undo() behind restore()", x.undo(), -1);
        EDGE.man(x, 0, 0, 10);
        x.go(0, 0);
        EDGE.is("undo() of what was done then", x.undo(), 0);
        EDGE.man(x, 0, 0, 10);
    }

    // ---- counts

    private static void counts() {
        EDGE.of(43, "0 MEN, 1 ORDERS, 2 FOES, 3 'clear', 4 'rain', 5 bytes of the tape. NONE for another what");
        BrowArmy x = EDGE.army("man a 0 0 9;man b 0 1 5;man c 0 0 0;order o left right;order p left left;foe 1 1;clear 4;rain 30;", 8);
        Due.lay(x, "abcde");
        int[] due = {3, 2, 1, 4, 30, 5};
        for (int what = 0; what < due.length; what++) {
            EDGE.is("count(" + what + ")", x.count(what), due[what]);
        }
        for (int what : Edge.outside(0, 5)) {
            EDGE.is("count(" + what + ")", x.count(what), -1);
            Twins.leaves(EDGE, "count(" + what + ")", -1, y -> y.count(what));
        }
    }
}
