import java.util.ArrayList;
import java.util.Collections;
import java.util.List;
import java.util.Random;

/** All promises: runs of drawn calls, each answered by the class as by the model. */
public final class ModelTest {
    private static final Due DUE = new Due();
    private static final int RUNS = 1500;
    private static final int CALLS = 512;
    private static final String[] MEN = {"a", "bo", "cid", "dan", "eve", "fay", "gus", "hal", "ida", "abcdefg"};
    private static final String[] ORDERS = {"go", "halt", "turn", "aim", "rest", "dig", "eat", "sing"};
    private static final String[] LIFTS = {"left", "right", "both"};
    private static final String[] SIDES = {"east", "south", "west", "north"};
    private static final String[] NOISE = {";", "(", ")", "<", "man", "under", "not", "31", "999", "1000", "x1", "zz",
        "hour", "and", "or", ".", "A", "\t", "left", "a", "go", "joined", "grey", "abcdefgh", "order", "clear 3;", "rain 2;"};

    private final Random random;
    private final BrowArmy x = new BrowArmy();
    private final Model model = new Model();
    private final String run;
    private int calls;

    private ModelTest(int seed) {
        random = new Random(seed);
        run = "run " + seed;
    }

    public static void main(String[] args) {
        for (int seed = 0; seed < RUNS; seed++) {
            new ModelTest(seed).goThrough();
        }
        DUE.finish();
    }

    private void goThrough() {
        army();
        while (calls < CALLS) {
            step();
        }
    }

    private void is(String call, int got, int want) {
        calls++;
        DUE.is(run + ", call " + calls + ": " + call, got, want);
    }

    private int r(int n) {
        return random.nextInt(n);
    }

    private String one(String[] of) {
        return of[r(of.length)];
    }

    // ---- texts

    private void lay(String text) {
        int before = model.count(5);
        for (int at = 0; at < text.length(); at += 20) {
            int[] five = new int[5];
            for (int i = 0; i < 20; i++) {
                int value = at + i < text.length() ? text.charAt(at + i) : r(256);
                five[i / 4] |= value << (24 - 8 * (i % 4));
            }
            is("feed", x.feed(five[0], five[1], five[2], five[3], five[4]), model.feed(five));
        }
        is("end", x.end(before + text.length()) ? 1 : 0, model.end(before + text.length()));
    }

    private String spoilt(String text) {
        StringBuilder spoilt = new StringBuilder(text);
        for (int n = 1 + r(2); n > 0 && spoilt.length() > 0; n--) {
            int at = r(spoilt.length());
            switch (r(4)) {
                case 0:
                    spoilt.insert(at, " " + one(NOISE) + " ");
                    break;
                case 1:
                    spoilt.deleteCharAt(at);
                    break;
                case 2:
                    spoilt.setCharAt(at, one(NOISE).charAt(0));
                    break;
                default:
                    spoilt.setLength(at);
                    break;
            }
        }
        return spoilt.toString();
    }

    /** Now and then longer than the most bytes, or spoilt. */
    private String finished(String text, int most) {
        String made = r(4) == 0 ? spoilt(text) : text;
        if (r(12) == 0) {
            int length = most - 6 + r(12);
            int at = made.indexOf(' ');
            String blanks = " ".repeat(Math.max(0, length - made.length()));
            made = r(2) == 0 || at < 0 ? made + blanks : made.substring(0, at) + blanks + made.substring(at);
        }
        return made.length() > 930 ? made.substring(0, 930) : made;
    }

    private void army() {
        StringBuilder text = new StringBuilder();
        int spread = 3 + r(28);
        int men = r(9) + (r(20) == 0 ? 1 : 0);
        for (int m = 0; m < men; m++) {
            text.append("man ").append(MEN[m]).append(' ').append(r(spread)).append(' ').append(r(spread)).append(' ')
                .append(r(10)).append(r(3) == 0 ? " joined" : "").append(r(3) == 0 ? "\ngrey" : "").append(';');
        }
        boolean tree = r(10) != 0;
        List<String> ranks = new ArrayList<>(List.of(MEN).subList(0, men));
        Collections.shuffle(ranks, random);
        for (int m = 1; m < men; m++) {
            if (r(6) != 0) {
                text.append("under ").append(ranks.get(m)).append(' ').append(ranks.get(tree ? r(m) : r(men))).append("; ");
            }
        }
        List<String> pairs = new ArrayList<>();
        for (String first : LIFTS) {
            for (String second : LIFTS) {
                pairs.add(first + " " + second);
            }
        }
        int orders = r(8) + (r(20) == 0 ? 1 : 0);
        for (int o = 0; o < orders; o++) {
            String pair = r(40) == 0 ? pairs.get(0) : pairs.remove(r(pairs.size()));
            text.append("order ").append(ORDERS[o]).append(' ').append(pair).append(';');
        }
        int foes = r(5) + (r(20) == 0 ? 1 : 0);
        for (int f = 0; f < foes; f++) {
            text.append("foe ").append(r(31)).append(' ').append(r(31)).append(';');
        }
        if (r(2) == 0) {
            text.append("clear ").append(1 + r(5)).append(';');
        }
        if (r(2) == 0) {
            text.append("rain ").append(1 + r(30)).append(';');
        }
        lay(finished(text.toString(), 900));
        is("army() of " + text, x.army(), model.army());
        is("fault()", x.fault(), model.fault());
    }

    private String manName() {
        return r(15) == 0 ? one(MEN) : MEN[r(Math.max(1, model.count(0)))];
    }

    private String orderName() {
        return r(15) == 0 ? one(ORDERS) : ORDERS[r(Math.max(1, model.count(1)))];
    }

    private void book() {
        StringBuilder text = new StringBuilder();
        int lines = r(8) == 0 ? 38 + r(4) : r(8);
        boolean hoursAlone = lines > 12;
        for (int n = 0; n < lines; n++) {
            int verb = hoursAlone || model.count(0) == 0 ? 6 : r(7);
            if (verb == 6) {
                text.append("hour ").append(1 + r(r(9) == 0 ? 60 : 3)).append(';');
            } else {
                String[] verbs = {"lifts " + one(LIFTS), "gives " + orderName(), "sleeps", "wakes", "soots",
                    "goes " + one(SIDES)};
                text.append(manName()).append(' ').append(verbs[verb]).append(';');
            }
        }
        lay(finished(text.toString(), 400));
        int lives = r(10) == 0 ? r(5) - 2 : r(2);
        is("book(" + lives + ") of " + text, x.book(lives), model.book(lives));
        is("fault()", x.fault(), model.fault());
        for (int what = 0; what < 4; what++) {
            is("told(" + what + ")", x.told(what), model.told(what));
        }
    }

    private String condition(int depth) {
        StringBuilder text = new StringBuilder(oneOf(depth));
        for (int n = r(3); n > 0; n--) {
            text.append(r(2) == 0 ? " and " : " or ").append(oneOf(depth));
        }
        return text.toString();
    }

    private String oneOf(int depth) {
        switch (r(depth > 8 ? 10 : 14)) {
            case 0: return "asleep";
            case 1: return "sooted";
            case 2: return "joined";
            case 3: return "grey";
            case 4: return "idle";
            case 5: return "under " + manName();
            case 6: return "sees " + manName();
            case 7: return "has " + orderName();
            case 8: return "brow" + "<=>".charAt(r(3)) + r(10);
            case 9: return one(new String[] {"heard", "lost", "number"}) + "<=>".charAt(r(3)) + " " + r(4);
            case 10: return "(" + condition(depth + 1) + ")";
            default: return "not " + oneOf(depth + 1);
        }
    }

    private void sentence() {
        String text = condition(r(12) == 0 ? -6 : 4);
        lay(finished(text, 200));
        is("sentence() of " + text, x.sentence(), model.sentence());
        is("fault()", x.fault(), model.fault());
        for (int k = -2; k < 9; k += 1 + r(3)) {
            is("said(" + k + ")", x.said(k), model.said(k));
        }
    }

    // ---- calls

    private int anyMan() {
        return r(12) == 0 ? r(12) - 2 : r(Math.max(1, model.count(0)));
    }

    private int anyOrder() {
        return r(12) == 0 ? r(10) - 2 : r(Math.max(1, model.count(1)));
    }

    private int man(int m, int what) {
        try {
            return x.man(m, what);
        } catch (java.util.NoSuchElementException e) {
            return -77;
        }
    }

    private void look() {
        int m = anyMan();
        for (int what = r(3); what < 11; what += 1 + r(2)) {
            is("man(" + m + ", " + what + ")", man(m, what), model.man(m, what));
        }
        for (int what = r(2); what < 8; what += 1 + r(2)) {
            is("now(" + what + ")", x.now(what), model.now(what));
        }
        int o = anyOrder();
        is("order(" + o + ", 2)", x.order(o, 2), model.order(o, 2));
        is("order", x.order(o, r(1)), model.order(o, 0));
        int what = r(8) - 1;
        is("count(" + what + ")", x.count(what), model.count(what));
    }

    private void act() {
        int m = anyMan();
        int o = anyOrder();
        int lift = r(12) == 0 ? r(8) - 2 : 1 + r(3);
        int side = r(12) == 0 ? r(8) - 2 : r(4);
        switch (r(9)) {
            case 0:
            case 1:
                is("lift(" + m + ", " + lift + ")", x.lift(m, lift), model.act(0, m, lift));
                break;
            case 2:
            case 3:
                is("give(" + m + ", " + o + ")", x.give(m, o), model.act(1, m, o));
                break;
            case 4:
                is("sleep(" + m + ")", x.sleep(m), model.act(2, m, 0));
                break;
            case 5:
                is("wake(" + m + ")", x.wake(m), model.act(3, m, 0));
                break;
            case 6:
                is("soot(" + m + ")", x.soot(m), model.act(4, m, 0));
                break;
            case 7:
                is("go(" + m + ", " + side + ")", x.go(m, side), model.act(5, m, side));
                break;
            default:
                int n = r(8) == 0 ? r(64) - 1 : 1 + r(3);
                is("hours(" + n + ")", x.hours(n), model.hours(n));
                break;
        }
    }

    private void sight() {
        int m = anyMan();
        int o = anyOrder();
        is("sees(" + m + ")", x.sees(m), model.sees(m));
        is("reads(" + m + ")", x.reads(m), model.reads(m));
        is("foes(" + m + ")", x.foes(m), model.foes(m));
        is("reach(" + m + ", " + o + ")", x.reach(m, o), model.reach(m, o));
        is("soon(" + m + ", " + o + ")", x.soon(m, o), model.soon(m, o));
        is("best(" + o + ")", x.best(o), model.best(o));
        is("unrest()", x.unrest(), model.unrest());
        is("code()", x.code(), model.code());
    }

    private void cells() {
        int m = anyMan();
        if (r(2) == 0) {
            is("stand(" + m + ")", x.stand(m), model.stand(m));
        } else {
            is("hide(" + m + ")", x.hide(m), model.hide(m));
        }
        for (int what = -1; what < 3; what++) {
            is("cell(" + what + ")", x.cell(what), model.cell(what));
        }
    }

    private void guess() {
        StringBuilder pairs = new StringBuilder();
        boolean lifts = r(2) == 0;
        for (int n = r(12) == 0 ? r(10) : 1 + r(3); n > 0; n--) {
            pairs.append((char) (lifts ? r(4) : Math.max(0, anyMan()))).append((char) (lifts ? r(4) : r(2)));
        }
        if (r(12) == 0) {
            pairs.append((char) r(5));
        }
        lay(pairs.toString());
        if (lifts) {
            is("meant()", x.meant(), model.meant());
        } else {
            is("scratch()", x.scratch(), model.scratch());
        }
        is("wrong()", x.wrong(), model.wrong());
        is("look()", x.look(), model.look());
        is("ask()", x.ask(), model.ask());
    }

    private void report() {
        int m = anyMan();
        is("report(" + m + ")", x.report(m), model.report(m));
        for (int i = -1; i < 40; i += 1 + r(6)) {
            is("byteAt(" + i + ")", x.byteAt(i), model.byteAt(i));
        }
    }

    private void draws() {
        int n = r(6) == 0 ? r(64) - 1 : 1 + r(5);
        int seed = random.nextInt();
        int m = anyMan();
        if (r(2) == 0) {
            is("odds(" + m + ", " + n + ", " + seed + ")", x.odds(m, n, seed), model.odds(m, n, seed));
        } else {
            is("drawn(" + n + ", " + seed + ")", x.drawn(n, seed), model.drawn(n, seed));
        }
    }

    private void images() {
        int k = r(4) - 1;
        if (r(2) == 0) {
            is("image(" + k + ")", x.image(k) ? 1 : 0, model.image(k));
        } else {
            is("restore(" + k + ")", x.restore(k) ? 1 : 0, model.restore(k));
        }
    }

    private void step() {
        switch (r(40)) {
            case 0:
                if (r(4) == 0) {
                    army();
                }
                break;
            case 1:
            case 2:
                book();
                break;
            case 3:
            case 4:
                sentence();
                break;
            case 5:
            case 6:
            case 7:
                look();
                break;
            case 8:
            case 9:
                sight();
                break;
            case 10:
                cells();
                break;
            case 11:
            case 12:
                guess();
                break;
            case 13:
                report();
                break;
            case 14:
                draws();
                break;
            case 15:
                images();
                break;
            case 16:
            case 17:
                is("undo()", x.undo(), model.undo());
                break;
            default:
                act();
                break;
        }
    }
}
