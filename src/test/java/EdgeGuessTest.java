/** Boundary cases of what was meant, who scratched, reports and draws (promises 26 to 31 and 33 to 36). */
public final class EdgeGuessTest {
    private static final Edge EDGE = new Edge();
    private static final String NINE = "order a left left;order b left right;order c left both;order d right left;"
        + "order e right right;order f right both;order g both left;";
    private static final String FOUR = "man a 0 0 9;man b 0 1 9;man c 0 2 9;man d 0 3 0;under b a;under c a;under d b;";

    public static void main(String[] args) {
        whatWasMeant();
        whoScratched();
        reports();
        draws();
        EDGE.finish();
    }

    private static void whatWasMeant() {
        oneToSixPairs();
        liftsAsSomebodySawThem();
        meantWithoutOrders();
        fewestAreWrong();
        wrongOfTheLatest();
        lookOfLikeOnes();
        lookOfTheLatest();
        codeNoOrderHas();
        codeOfLikeOnes();
    }

    private static void whoScratched() {
        oneToEightPairs();
        aManAndWhetherHeRead();
        justThose();
        askAsManyAsNot();
        askByTheLatestAboveNought();
    }

    private static void reports() {
        reportOfAMan();
        theLongestReport();
        byteOfTheLatest();
    }

    private static void draws() {
        drawnOneToSixty();
        drawnHoursAreOver();
        seedsWrap();
        eachIfHeCan();
        noOrdersNoDraw();
        oddsOneToThirty();
        oddsOfSeeds();
        oddsTwentyHours();
    }

    private static int meant(BrowArmy x, int... bytes) {
        Due.lay(x, bytes);
        return x.meant();
    }

    private static int scratch(BrowArmy x, int... bytes) {
        Due.lay(x, bytes);
        return x.scratch();
    }

    /** So many pairs of the same two bytes. */
    private static int[] pairs(int count, int first, int second) {
        int[] bytes = new int[2 * count];
        for (int i = 0; i < bytes.length; i++) {
            bytes[i] = i % 2 == 0 ? first : second;
        }
        return bytes;
    }

    // ---- what was meant

    private static void oneToSixPairs() {
        EDGE.of(26, "1 to 6 of them, of one ORDER");
        for (int count = 1; count <= 6; count++) {
            BrowArmy x = EDGE.army(NINE, 7);
            EDGE.is("meant() of " + count, meant(x, pairs(count, 2, 3)), 32);
            EDGE.is("count(5)", x.count(5), 0);
            EDGE.is("meant() of " + count + " pairs, all wrong", meant(x, pairs(count, 3, 3)), 4 | 32 | 64);
            EDGE.is("wrong()", x.wrong(), count);
        }
        for (int count : new int[] {0, 7, 8, 20}) {
            emptied("meant() of " + count + " pairs", x -> meant(x, pairs(count, 1, 1)));
        }
        for (int length : new int[] {1, 3, 5, 11, 13}) {
            emptied("meant() of " + length + " bytes", x -> meant(x, new int[length]));
        }
    }

    /** It is NONE, and all but the tape, which is empty then, is as it was. */
    private static void emptied(String call, java.util.function.ToIntFunction<BrowArmy> refused) {
        Twins.leavesAllButTheTape(EDGE, call, -1, x -> {
            x.end(0);
            return refused.applyAsInt(x);
        });
    }

    private static void liftsAsSomebodySawThem() {
        EDGE.of(26, "the first and the second LIFT as somebody saw them, 0 unseen");
        BrowArmy x = EDGE.army(NINE, 7);
        EDGE.is("meant() unseen", meant(x, 0, 0), 127);
        EDGE.is("wrong() unseen", x.wrong(), 0);
        EDGE.is("meant() of the third lift", meant(x, 3, 0), 64);
        EDGE.is("meant() of the third lift", meant(x, 0, 3), 4 | 32);
        for (int number : new int[] {4, 5, 128, 255}) {
            emptied("meant() of " + number, y -> meant(y, number, 1));
            emptied("meant() of 1, " + number, y -> meant(y, 1, number));
            emptied("meant() of 1, 1, 1, " + number, y -> meant(y, 1, 1, 1, number));
        }
    }

    private static void meantWithoutOrders() {
        EDGE.of(26, "NONE: not as told, or there are no ORDERS");
        BrowArmy x = EDGE.army("man a 0 0 9;", 1);
        EDGE.is("meant()", meant(x, 1, 1), -1);
        EDGE.is("count(5), the tape is empty then", x.count(5), 0);
        EDGE.is("wrong()", x.wrong(), -1);
        EDGE.is("look()", x.look(), -1);
        EDGE.is("meant() of one order", meant(EDGE.army("order o left left;", 1), 3, 3), 1);
    }

    private static void fewestAreWrong() {
        EDGE.of(26, "the ORDERS by which fewest of these LIFTS are wrong (unseen ones are not)");
        BrowArmy x = EDGE.army("order a left left;order b left right;order c both right;", 3);
        EDGE.is("meant() of one", meant(x, 1, 2), 2);
        EDGE.is("wrong()", x.wrong(), 0);
        EDGE.is("meant() of two", meant(x, 1, 3), 3);
        EDGE.is("wrong()", x.wrong(), 1);
        EDGE.is("meant() of all", meant(x, 2, 3), 7);
        EDGE.is("wrong()", x.wrong(), 2);
        // 5 of 6 seconds are right, of the firsts 4 are unseen
        EDGE.is("meant() of six", meant(x, 0, 2, 0, 2, 3, 2, 0, 2, 3, 2, 0, 1), 4);
        EDGE.is("wrong()", x.wrong(), 1);
        EDGE.is("meant() of six, all wrong", meant(x, 2, 3, 2, 3, 2, 3, 2, 3, 2, 3, 2, 3), 7);
        EDGE.is("wrong()", x.wrong(), 12);
    }

    private static void wrongOfTheLatest() {
        EDGE.of(27, "How many LIFTS are wrong by the latest meant() that was not NONE; NONE ahead of any");
        BrowArmy x = EDGE.army("order a left left;", 1);
        EDGE.is("wrong() ahead of any", x.wrong(), -1);
        meant(x, 4, 4);
        EDGE.is("wrong() behind a meant() of NONE", x.wrong(), -1);
        meant(x, 1, 2);
        EDGE.is("wrong()", x.wrong(), 1);
        meant(x, 1);
        meant(x);
        EDGE.is("wrong() stays", x.wrong(), 1);
        Due.army(x, "");
        meant(x, 1, 1);
        EDGE.is("wrong() stays without orders", x.wrong(), 1);
        Due.army(x, "order a left left;");
        meant(x, 1, 1);
        EDGE.is("wrong() of 0", x.wrong(), 0);
    }

    private static void lookOfLikeOnes() {
        EDGE.of(28, "that by which the greatest number of these that may still be left is less, if one learns what it was meant to be (of like ones the first)");
        BrowArmy x = EDGE.army("order a left left;order b left right;order c both right;order d right right;", 4);
        meant(x, 1, 0);
        EDGE.is("look() of a, b: one left by the second", x.look(), 1);
        meant(x, 0, 2);
        EDGE.is("look() of b, c, d: one left by the first", x.look(), 0);
        meant(x, 0, 0);
        EDGE.is("look() of all: two by the first, three by the second", x.look(), 0);
        meant(x, 1, 1);
        EDGE.is("look() of one", x.look(), 0);
        BrowArmy y = EDGE.army("order a left left;order b left right;order c right left;order d right right;", 4);
        meant(y, 0, 0);
        EDGE.is("look() of like ones", y.look(), 0);
        BrowArmy z = EDGE.army("order a both left;order b both right;order c both both;order d left both;", 4);
        meant(z, 0, 0);
        EDGE.is("look(): three by the first, two by the second", z.look(), 1);
        EDGE.is("look() of the full", lookOf(NINE), 0);
    }

    private static int lookOf(String army) {
        BrowArmy x = Due.of(army);
        meant(x, 0, 0);
        return x.look();
    }

    private static void lookOfTheLatest() {
        EDGE.of(28, "LOOK by that; NONE ahead of any");
        BrowArmy x = EDGE.army("order a left left;order b left right;", 2);
        EDGE.is("look() ahead of any", x.look(), -1);
        meant(x, 4, 4);
        EDGE.is("look() behind a meant() of NONE", x.look(), -1);
        meant(x, 0, 0);
        EDGE.is("look()", x.look(), 1);
        meant(x, 9, 9);
        EDGE.is("look() stays", x.look(), 1);
        Due.army(x, "order a left left;order b right left;");
        EDGE.is("look() stays in a new army", x.look(), 1);
        meant(x, 0, 0);
        EDGE.is("look() anew", x.look(), 0);
    }

    private static void codeNoOrderHas() {
        EDGE.of(29, "NEW: the two LIFTS that no ORDER has, and of which most are unlike those of each ORDER");
        EDGE.is("code() of a new object", new BrowArmy().code(), 5);
        EDGE.is("code() without orders", EDGE.army("man a 0 0 0;", 1).code(), 5);
        EDGE.is("code(), both unlike", EDGE.army("order a left left;", 1).code(), 4 * 2 + 2);
        EDGE.is("code(), both unlike both", EDGE.army("order a left left;order b right right;", 2).code(), 4 * 3 + 3);
        EDGE.is("code(), one alone can be unlike", EDGE.army("order a left left;order b right right;order c both both;", 3)
            .code(), 4 + 2);
        EDGE.is("code() of seven", EDGE.army(NINE, 7).code(), 4 * 3 + 2);
        EDGE.is("code() of the other seven", EDGE.army("order a both both;order b both right;order c both left;"
            + "order d right both;order e right right;order f right left;order g left both;", 7).code(), 4 + 1);
    }

    private static void codeOfLikeOnes() {
        EDGE.of(29, "of like ones the least first, then second");
        EDGE.is("code(), the least first", EDGE.army("order a right right;", 1).code(), 4 + 1);
        EDGE.is("code(), then the least second", EDGE.army("order a right left;", 1).code(), 4 + 2);
        EDGE.is("code(), then the least second", EDGE.army("order a both both;", 1).code(), 4 + 1);
        EDGE.of(29, "(of each two the fewest over all ORDERS count; no ORDERS: all are alike)");
        EDGE.is("code(), the fewest count", EDGE.army("order a left left;order b left right;", 2).code(), 4 * 2 + 3);
    }

    // ---- who scratched

    private static void oneToEightPairs() {
        EDGE.of(30, "a MAN, 1 he READ it or 0 he did not; 1 to 8 of them");
        BrowArmy x = EDGE.army(FOUR, 7);
        for (int count = 1; count <= 8; count++) {
            EDGE.is("scratch() of " + count, scratch(x, pairs(count, 3, 1)), 2);
            EDGE.is("count(5)", x.count(5), 0);
        }
        for (int count : new int[] {0, 9, 10, 20}) {
            emptied("scratch() of " + count + " pairs", y -> scratch(y, pairs(count, 0, 0)));
        }
        for (int length : new int[] {1, 3, 15, 17}) {
            emptied("scratch() of " + length + " bytes", y -> scratch(y, new int[length]));
        }
    }

    private static void aManAndWhetherHeRead() {
        EDGE.of(30, "SCRATCH: MEN, as bits; NONE: not as told");
        BrowArmy x = EDGE.army(FOUR, 7);
        EDGE.is("scratch() of the first man", scratch(x, 0, 0), 15);
        EDGE.is("scratch() of the last man", scratch(x, 3, 0), 13);
        EDGE.is("scratch() of the last man", scratch(x, 3, 1), 2);
        EDGE.is("scratch() of one man more", scratch(x, 4, 0), -1);
        EDGE.is("scratch() of 2", scratch(x, 3, 2), -1);
        for (int number : new int[] {5, 8, 255}) {
            emptied("scratch() of man " + number, y -> scratch(y, number, 0));
            emptied("scratch() of man " + number + " behind one", y -> scratch(y, 0, 0, number, 0));
        }
        for (int number : new int[] {2, 3, 255}) {
            emptied("scratch() of " + number, y -> scratch(y, 0, number));
            emptied("scratch() of " + number + " behind one", y -> scratch(y, 0, 0, 0, number));
        }
        EDGE.is("scratch() without men", scratch(new BrowArmy(), 0, 0), -1);
    }

    private static void justThose() {
        EDGE.of(30, "MEN whose LIFT now just those would READ");
        BrowArmy x = EDGE.army(FOUR, 7);
        EDGE.is("scratch(), of whom nothing is told may have read", scratch(x, 1, 1), 1);
        EDGE.is("scratch() of both", scratch(x, 1, 1, 2, 1), 1);
        EDGE.is("scratch() of one and not the other", scratch(x, 1, 1, 2, 0), 0);
        EDGE.is("scratch() of nobody", scratch(x, 1, 0, 2, 0, 3, 0, 0, 0), 12);
        // now: who sleeps or is too far does not read
        x.sleep(2);
        EDGE.is("scratch(), c is asleep", scratch(x, 1, 1, 2, 0), 1);
        x.undo();
        EDGE.is("scratch() of like ones", scratch(x, 1, 1, 1, 0), 0);
        // all eight, of whom seven read
        StringBuilder eight = new StringBuilder("man a 0 0 9;");
        int[] all = new int[16];
        for (int m = 1; m < 8; m++) {
            char c = (char) ('a' + m);
            eight.append("man ").append(c).append(" 0 0 9;under ").append(c).append(" a;");
            all[2 * m] = m;
            all[2 * m + 1] = 1;
        }
        BrowArmy full = EDGE.army(eight.toString(), 15);
        EDGE.is("scratch() of all eight", scratch(full, all), 1);
        EDGE.is("ask() of one, whom seven read", full.ask(), 0);
        EDGE.is("scratch() of none of the eight", scratch(full, 0, 0), 255);
        EDGE.is("ask() of eight", full.ask(), 1);
    }

    private static void askAsManyAsNot() {
        EDGE.of(31, "ASK: the MAN who READS as many of these as not, as nearly as may be (of like ones the first)");
        // d reads one of four, and c, too: none reads more than one, for each is under one alone
        BrowArmy x = EDGE.army("man a 0 0 9;man b 0 1 9;man c 0 2 9;man d 0 3 9;under c b;under d a;", 6);
        scratch(x, 0, 0);
        EDGE.is("ask() of four", x.ask(), 2);
        scratch(x, 2, 0, 3, 0);
        EDGE.is("ask() of two whom nobody reads", x.ask(), 0);
        scratch(x, 3, 0);
        EDGE.is("ask() of b, c, d", x.ask(), 2);
        scratch(x, 2, 0);
        EDGE.is("ask() of a, c, d", x.ask(), 3);
        scratch(x, 2, 1);
        // one alone: read by c or by nobody, each is one off
        EDGE.is("ask() of b alone", x.ask(), 0);
        // two, of whom one is read: as many as not
        BrowArmy y = EDGE.army("man a 0 0 0;man b 0 0 9;man c 0 0 9;under c b;", 4);
        scratch(y, 2, 0);
        EDGE.is("ask() of a, c", y.ask(), 0);
        scratch(y, 0, 0);
        EDGE.is("ask() of three", y.ask(), 2);
        BrowArmy two = EDGE.army("man a 0 0 9;man b 0 0 9;under b a;", 3);
        scratch(two, 0, 0);
        EDGE.is("ask() of two", two.ask(), 1);
        two.sleep(1);
        scratch(two, 0, 0);
        EDGE.is("ask() of two, he is asleep", two.ask(), 0);
    }

    private static void askByTheLatestAboveNought() {
        EDGE.of(31, "ASK by the latest scratch() above 0 (as it was then); NONE ahead of any");
        BrowArmy x = EDGE.army(FOUR, 7);
        EDGE.is("ask() ahead of any", x.ask(), -1);
        scratch(x, 1, 1, 2, 0);
        EDGE.is("ask() behind a scratch() of 0", x.ask(), -1);
        scratch(x, 4, 0);
        EDGE.is("ask() behind a scratch() of NONE", x.ask(), -1);
        scratch(x, 1, 0);
        EDGE.is("ask()", x.ask(), 3);
        scratch(x, 1, 1, 2, 0);
        EDGE.is("ask() behind a scratch() of 0", x.ask(), 3);
        scratch(x, 9, 9);
        EDGE.is("ask() behind a scratch() of NONE", x.ask(), 3);
        x.sleep(3);
        EDGE.is("ask() as it was then", x.ask(), 3);
        EDGE.is("scratch() of the first man alone", scratch(x, 1, 1), 1);
        EDGE.is("ask() behind a scratch() of 1", x.ask(), 0);
        x.wake(3);
        scratch(x, 1, 0);
        EDGE.is("ask()", x.ask(), 3);
        Due.army(x, "");
        EDGE.is("ask() in a new army", x.ask(), 3);
    }

    // ---- reports

    private static void reportOfAMan() {
        EDGE.of(33, "REPORT of a MAN: how many bytes; NONE: no such one");
        BrowArmy x = EDGE.army("man a 0 0 9;man b 0 0 9;under b a;order o left left;", 4);
        EDGE.is("report(0)", x.report(0), 6);
        EDGE.isText("report(1)", Due.reportOf(x, 1), "b idle");
        String[] lifts = {"left", "right", "both"};
        for (int lift = 1; lift <= 3; lift++) {
            x.lift(0, lift);
            EDGE.isText("report(1)", Due.reportOf(x, 1), "b idle heard " + lifts[lift - 1]);
            x.undo();
        }
        x.sleep(1);
        EDGE.isText("report(1)", Due.reportOf(x, 1), "b idle asleep");
        x.wake(1);
        x.give(0, 0);
        EDGE.isText("report(1)", Due.reportOf(x, 1), "b has o");
        EDGE.is("report(0) without men", new BrowArmy().report(0), -1);
        for (int m : Edge.outside(0, 4)) {
            Twins.leaves(EDGE, "report(" + m + ")", -1, y -> y.report(m));
        }
    }

    private static void theLongestReport() {
        EDGE.of(33, "REPORT of a MAN: his NAME, then ' has ' and the ORDER's NAME, or ' idle', then ' heard ' and the LIFT's WORD, if he HEARD one, ' asleep', if he is");
        BrowArmy x = EDGE.army("man abcdefg 0 0 9;man tuvwxyz 0 1 9;under tuvwxyz abcdefg;order hijklmn right right;", 4);
        x.give(0, 0);
        x.lift(0, 2);
        x.sleep(1);
        EDGE.is("report(1)", x.report(1), 38);
        EDGE.isText("report(1)", Due.reportOf(x, 1), "tuvwxyz has hijklmn heard right asleep");
        EDGE.isText("report(0) behind a longer one", Due.reportOf(x, 0), "abcdefg idle");
        EDGE.is("byteAt(12) of it", x.byteAt(12), -1);
    }

    private static void byteOfTheLatest() {
        EDGE.of(34, "Byte i of the latest REPORT; NONE: none such");
        BrowArmy x = EDGE.army("man az 0 0 9;man b 0 0 9;", 2);
        EDGE.is("byteAt(0) ahead of any", x.byteAt(0), -1);
        EDGE.is("byteAt(-1) ahead of any", x.byteAt(-1), -1);
        x.report(2);
        EDGE.is("byteAt(0) behind a report() of NONE", x.byteAt(0), -1);
        x.report(0);
        int[] due = {'a', 'z', ' ', 'i', 'd', 'l', 'e'};
        for (int i = 0; i < due.length; i++) {
            EDGE.is("byteAt(" + i + ")", x.byteAt(i), due[i]);
        }
        for (int i : Edge.outside(0, 6)) {
            EDGE.is("byteAt(" + i + ")", x.byteAt(i), -1);
        }
        x.report(-1);
        x.report(2);
        EDGE.is("byteAt(1) stays", x.byteAt(1), 'z');
        x.report(1);
        EDGE.is("byteAt(0) of the latest", x.byteAt(0), 'b');
        EDGE.is("byteAt(6) of the latest", x.byteAt(6), -1);
        Due.army(x, "");
        EDGE.is("byteAt(0) in a new army", x.byteAt(0), 'b');
    }

    // ---- draws

    private static int next(int seed) {
        return seed * 1103515245 + 12345;
    }

    /** A seed by which the first draws are these, each followed by the n that it is of. */
    private static int seedOf(int... drawsAndNs) {
        for (int seed = -1 << 20; seed < 1 << 20; seed++) {
            int x = seed;
            boolean fits = true;
            for (int i = 0; i < drawsAndNs.length && fits; i += 2) {
                x = next(x);
                fits = (x >>> 8) % drawsAndNs[i + 1] == drawsAndNs[i];
            }
            if (fits) {
                return seed;
            }
        }
        throw new IllegalStateException("no seed draws so: " + java.util.Arrays.toString(drawsAndNs));
    }

    private static void drawnOneToSixty() {
        EDGE.of(35, "n (1 to 60) HOURS DRAWN by a seed: how many went by; NONE: not as told");
        BrowArmy x = EDGE.army(FOUR, 7);
        EDGE.is("drawn(1, 7)", x.drawn(1, 7), 1);
        EDGE.now(x, 0, 1);
        EDGE.is("drawn(60, 7)", x.drawn(60, 7), 60);
        EDGE.now(x, 0, 61);
        EDGE.is("drawn(60, 7) without men", new BrowArmy().drawn(60, 7), 60);
        for (int n : Edge.outside(1, 60)) {
            Twins.leaves(EDGE, "drawn(" + n + ", 7)", -1, y -> y.drawn(n, 7));
        }
    }

    private static void drawnHoursAreOver() {
        EDGE.of(35, "HOURS DRAWN by a seed: how many went by");
        BrowArmy x = EDGE.army("man a 15 15 9;", 1);
        Edge.till(x, 341);
        EDGE.is("drawn(60, 3) at 341", x.drawn(60, 3), 59);
        EDGE.now(x, 0, 400);
        int sleeps = seedOf(1, 8);
        EDGE.is("drawn(1) at 400", x.drawn(1, sleeps), 0);
        EDGE.is("undo() of the 59", x.undo(), 6);
        EDGE.now(x, 0, 341);
        x.hours(58);
        EDGE.is("drawn(1) at 399", x.drawn(1, sleeps), 1);
        EDGE.now(x, 1, 1);
        EDGE.is("drawn(1) at 400, nobody wakes", x.drawn(1, sleeps), 0);
        EDGE.now(x, 1, 1);
    }

    private static void seedsWrap() {
        EDGE.of(35, "for each draw of n x becomes x * 1103515245 + 12345 (an int, wrapping), the draw is (x >>> 8) % n");
        for (int seed : new int[] {0, -1, 1, Integer.MIN_VALUE, Integer.MAX_VALUE, -1103515245}) {
            BrowArmy x = EDGE.army("man a 15 15 9;", 1);
            x.drawn(1, seed);
            int first = next(seed);
            int draw = (first >>> 8) % 8;
            int side = draw == 2 ? (next(first) >>> 8) % 4 : -1;
            EDGE.now(x, 1, draw == 1 ? 1 : 0);
            EDGE.now(x, 6, draw == 0 ? 1 : 0);
            EDGE.man(x, 0, 0, side == 0 ? 16 : side == 2 ? 14 : 15);
            EDGE.man(x, 0, 1, side == 1 ? 16 : side == 3 ? 14 : 15);
        }
        // the seed goes on from man to man and from hour to hour
        int seed = seedOf(1, 8, 4, 8);
        BrowArmy hours = EDGE.army("man a 15 15 9;", 1);
        hours.drawn(2, seed);
        EDGE.now(hours, 1, 1);
        BrowArmy men = EDGE.army("man a 15 15 9;man b 15 15 9;", 2);
        men.drawn(1, seed);
        EDGE.now(men, 1, 1);
        // a shift that keeps the sign would draw otherwise
        for (int side = 1; side < 4; side++) {
            int below = seedBelow(side);
            BrowArmy y = EDGE.army("man a 15 15 9;", 1);
            y.drawn(1, below);
            EDGE.man(y, 0, 0, side == 2 ? 14 : 15);
            EDGE.man(y, 0, 1, side == 1 ? 16 : side == 3 ? 14 : 15);
        }
    }

    /** A seed by which the first two draws are 2 of 8 and this side, both of an x below 0. */
    private static int seedBelow(int side) {
        for (int seed = 0; seed < 1 << 20; seed++) {
            int first = next(seed);
            int second = next(first);
            if (first < 0 && second < 0 && (first >>> 8) % 8 == 2 && (second >>> 8) % 4 == side) {
                return seed;
            }
        }
        throw new IllegalStateException("no seed draws side " + side);
    }

    private static void eachIfHeCan() {
        EDGE.of(35, "0: a draw of 3 (and 1): he LIFTS that; 1: he SLEEPS, or WAKES, if he is ASLEEP; 2: a draw of 4: he GOES to that SIDE");
        for (int side = 0; side < 4; side++) {
            // he who is at the end of the field can't, and the next draw is the next man's
            int[] ends = {0, 30};
            for (int end : ends) {
                BrowArmy x = EDGE.army("man a " + end + " " + end + " 9;man b 15 15 9;", 2);
                x.drawn(1, seedOf(2, 8, side, 4, 1, 8));
                int step = side < 2 ? 1 : -1;
                int there = end + step < 0 || end + step > 30 ? end : end + step;
                EDGE.man(x, 0, side % 2, there);
                EDGE.man(x, 0, 1 - side % 2, end);
                EDGE.now(x, 1, 2);
            }
        }
        String army = "man a 0 30 0;man b 30 0 9;man c 30 0 9;under c b;order o left left;order p right both;";
        for (int lift = 1; lift <= 3; lift++) {
            BrowArmy x = EDGE.army(army, 6);
            // he without a brow does not lift, but it is drawn
            x.drawn(1, seedOf(0, 8, 2, 3, 0, 8, lift - 1, 3, 4, 8));
            EDGE.now(x, 6, 1);
            EDGE.man(x, 2, 5, lift);
        }
        for (int draw = 4; draw < 8; draw++) {
            BrowArmy x = EDGE.army("man a 5 5 9;man b 5 5 9;under b a;order o left left;", 4);
            x.drawn(1, seedOf(draw, 8, 1, 8));
            EDGE.now(x, 1, 2);
            EDGE.now(x, 6, 0);
        }
        BrowArmy wakes = EDGE.army(army, 6);
        wakes.sleep(0);
        wakes.drawn(1, seedOf(1, 8, 1, 8, 7, 8));
        EDGE.now(wakes, 1, 2);
    }

    private static void noOrdersNoDraw() {
        EDGE.of(35, "3: a draw of all ORDERS (none: no draw): he GIVES it, if he is UNDER nobody (each, if he can); then the HOUR");
        BrowArmy none = EDGE.army("man a 5 5 9;man b 5 6 9;under b a;", 3);
        none.drawn(1, seedOf(3, 8, 1, 8));
        EDGE.now(none, 1, 2);
        EDGE.now(none, 6, 0);
        String orders = "order o left left;order p right both;order q both left;";
        for (int o = 0; o < 3; o++) {
            // b is under a: it is drawn, but he does not give it; a does
            BrowArmy x = EDGE.army("man b 5 6 9;man a 5 5 9;man c 5 5 9;under b a;under c b;" + orders, 8);
            x.drawn(1, seedOf(3, 8, 2 - o, 3, 3, 8, o, 3, 5, 8));
            EDGE.man(x, 0, 6, o);
            // the hour followed: what came ahead of it is passed on
            EDGE.man(x, 2, 6, o);
            EDGE.now(x, 4, 4);
            EDGE.now(x, 6, 4);
            EDGE.now(x, 0, 1);
            // who has no brow can't
            BrowArmy bare = EDGE.army("man a 5 5 0;man b 5 6 9;under b a;" + orders, 6);
            bare.drawn(1, seedOf(3, 8, o, 3, 1, 8));
            EDGE.now(bare, 1, 2);
            EDGE.now(bare, 3, 0);
            EDGE.now(bare, 6, 0);
        }
        // of one order there is a draw of 1
        BrowArmy one = EDGE.army("man a 5 5 9;man b 5 6 9;under b a;order o left left;", 4);
        one.drawn(1, seedOf(3, 8, 0, 1, 1, 8));
        EDGE.now(one, 1, 2);
        EDGE.man(one, 1, 6, 0);
    }

    private static void oddsOneToThirty() {
        EDGE.of(36, "Of n (1 to 30) seeds x, x and 1, .. by how many a MAN has an ORDER behind 20 HOURS DRAWN from now on; NONE: no such ones");
        BrowArmy x = EDGE.army("man a 0 0 9;man b 0 0 9;under b a;order o left left;", 4);
        x.give(0, 0);
        for (int n : new int[] {1, 2, 29, 30}) {
            EDGE.is("odds(1, " + n + "), who has one", x.odds(1, n, 5), n);
            EDGE.is("odds(0, " + n + "), who is under nobody", x.odds(0, n, 5), 0);
        }
        EDGE.is("odds(0, 1, 1) without men", new BrowArmy().odds(0, 1, 1), -1);
        for (int n : Edge.outside(1, 30)) {
            Twins.leaves(EDGE, "odds(0, " + n + ", 5)", -1, y -> y.odds(0, n, 5));
        }
        for (int m : Edge.outside(0, 4)) {
            Twins.leaves(EDGE, "odds(" + m + ", 1, 5)", -1, y -> y.odds(m, 1, 5));
        }
        int odds = Twins.rich().odds(4, 30, 5);
        Twins.leaves(EDGE, "odds(4, 30, 5), who is there", odds, y -> y.odds(4, 30, 5));
    }

    /** Whether the man has an order behind so many hours drawn by the seed. */
    private static int hasBehind(String army, int m, int hours, int seed) {
        BrowArmy x = Due.of(army);
        x.drawn(hours, seed);
        return x.man(m, 6) == -1 ? 0 : 1;
    }

    private static void oddsOfSeeds() {
        EDGE.of(36, "Of n (1 to 30) seeds x, x and 1, ..");
        String army = "man a 9 9 9;man b 9 9 9;man c 9 9 9;under b a;under c b;order o left right;order p both both;clear 1;";
        BrowArmy x = EDGE.army(army, 8);
        for (int seed : new int[] {0, -3, Integer.MAX_VALUE - 2, Integer.MIN_VALUE}) {
            int due = 0;
            for (int n = 1; n <= 30; n++) {
                due += hasBehind(army, 2, 20, seed + n - 1);
                EDGE.is("odds(2, " + n + ", " + seed + ")", x.odds(2, n, seed), due);
            }
        }
    }

    private static void oddsTwentyHours() {
        EDGE.of(36, "behind 20 HOURS DRAWN from now on");
        String army = "man a 9 9 9;man b 9 9 9;man c 9 9 9;under b a;under c b;order o left right;order p both both;clear 1;";
        BrowArmy x = EDGE.army(army, 8);
        int inTheLast = seedThatTurns(army, 19, 20);
        EDGE.is("odds() by which he has one in the twentieth hour", x.odds(2, 1, inTheLast), 1);
        int tooLate = seedThatTurns(army, 20, 21);
        EDGE.is("odds() by which he has one in the hour behind it", x.odds(2, 1, tooLate), 0);
        // fewer, if all are over
        Edge.till(x, 381);
        EDGE.is("odds() at 381", x.odds(2, 1, inTheLast), 0);
        x.hours(19);
        EDGE.is("odds() at 400", x.odds(2, 30, 0), 0);
    }

    /** A seed by which the third man has no order behind so many hours, and one behind so many. */
    private static int seedThatTurns(String army, int without, int with) {
        for (int seed = 0; seed < 100000; seed++) {
            if (hasBehind(army, 2, with, seed) == 1 && hasBehind(army, 2, without, seed) == 0) {
                return seed;
            }
        }
        throw new IllegalStateException("no seed turns between " + without + " and " + with);
    }
}
