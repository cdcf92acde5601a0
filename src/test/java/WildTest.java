import java.util.Random;

/** Nothing but man()'s own exception ever comes out of a call, whatever the numbers and the bytes are. */
public final class WildTest {
    private static final int RUNS = 400;
    private static final String[] TEXTS = {"man a 0 0 9;man b 1 1 9 joined;under b a;order o left both;foe 3 3;",
        "man a 1 2 3;", "a lifts left;", "hour 60;", "b gives o;", "asleep or not (sees a and brow>3)", "((((((((", "not ",
        "not not ", "idle and ", "under b ", ";", "order p both both;", "clear 5;rain 1;", "1234", "zzzzzzzzz", "\u00ff"};

    private static final Due DUE = new Due();

    public static void main(String[] args) {
        for (int seed = 0; seed < RUNS; seed++) {
            run(new Random(seed));
        }
        DUE.finish();
    }

    private static int wild(Random random) {
        int[] some = {Integer.MIN_VALUE, Integer.MAX_VALUE, -1000, -77, 31, 60, 61, 255, 256, 1 << 30};
        return random.nextInt(3) == 0 ? some[random.nextInt(some.length)] : random.nextInt(14) - 3;
    }

    private static void run(Random random) {
        BrowArmy x = new BrowArmy();
        for (int call = 0; call < 512; call++) {
            int which = random.nextInt(46);
            boolean fine = true;
            try {
                call(x, which, random);
            } catch (java.util.NoSuchElementException e) {
                fine = which == 44 && e.getClass() == java.util.NoSuchElementException.class;
            } catch (Throwable t) {
                fine = false;
                t.printStackTrace(System.out);
            }
            DUE.is("call " + which, fine, true);
        }
    }

    private static void call(BrowArmy x, int which, Random random) {
        int a = wild(random);
        int b = wild(random);
        switch (which) {
            case 0: x.feed(random.nextInt(), a, b, 0, random.nextInt()); break;
            case 1: x.end(a); break;
            case 2: x.army(); break;
            case 3: x.fault(); break;
            case 4: x.order(a, b); break;
            case 5: x.now(a); break;
            case 6: x.lift(a, b); break;
            case 7: x.give(a, b); break;
            case 8: x.sleep(a); break;
            case 9: x.wake(a); break;
            case 10: x.soot(a); break;
            case 11: x.go(a, b); break;
            case 12: x.hours(a); break;
            case 13: x.undo(); break;
            case 14: x.sees(a); break;
            case 15: x.reads(a); break;
            case 16: x.foes(a); break;
            case 17: x.reach(a, b); break;
            case 18: x.soon(a, b); break;
            case 19: x.best(a); break;
            case 20: x.stand(a); break;
            case 21: x.hide(a); break;
            case 22: x.cell(a); break;
            case 23: x.meant(); break;
            case 24: x.wrong(); break;
            case 25: x.look(); break;
            case 26: x.code(); break;
            case 27: x.scratch(); break;
            case 28: x.ask(); break;
            case 29: x.unrest(); break;
            case 30: x.report(a); break;
            case 31: x.byteAt(a); break;
            case 32: x.drawn(a, b); break;
            case 33: x.odds(a, b, random.nextInt()); break;
            case 34: x.book(a); break;
            case 35: x.book(random.nextInt(2)); break;
            case 36: x.told(a); break;
            case 37: x.sentence(); break;
            case 38: x.said(a); break;
            case 39: x.image(a); break;
            case 40: x.restore(a); break;
            case 41: x.count(a); break;
            case 42:
            case 43:
                Due.lay(x, TEXTS[random.nextInt(TEXTS.length)]);
                break;
            case 44: x.man(a, b); break;
            default:
                x.end(0);
                Due.army(x, TEXTS[0]);
                break;
        }
    }
}
