import java.nio.charset.StandardCharsets;

/** What the tests share: answers that are due, and texts laid on an object's tape. */
final class Due {
    private int asked;
    private int wrong;

    void is(String call, long got, long want) {
        asked++;
        if (got != want) {
            wrong++;
            System.out.println(call + " answered " + got + ", due is " + want);
        }
    }

    void is(String call, boolean got, boolean want) {
        is(call, got ? 1 : 0, want ? 1 : 0);
    }

    void isText(String call, String got, String want) {
        asked++;
        if (!got.equals(want)) {
            wrong++;
            System.out.println(call + " answered '" + got + "', due is '" + want + "'");
        }
    }

    /** man() with a number that it has not. */
    void noMan(BrowArmy x, int m, int what) {
        boolean thrown = false;
        try {
            x.man(m, what);
        } catch (java.util.NoSuchElementException e) {
            thrown = e.getClass() == java.util.NoSuchElementException.class;
        }
        is("man(" + m + ", " + what + ") throws", thrown, true);
    }

    void finish() {
        System.out.println(asked + " answers, " + wrong + " not as due");
        if (wrong != 0 || asked == 0) {
            System.exit(1);
        }
    }

    /** The bytes are behind the tape then; those cut off behind them are digits, which no call may still read. */
    static void lay(BrowArmy x, int... bytes) {
        int before = x.count(5);
        for (int at = 0; at < bytes.length; at += 20) {
            int[] five = new int[5];
            for (int i = 0; i < 20; i++) {
                int value = at + i < bytes.length ? bytes[at + i] & 255 : '9';
                five[i / 4] |= value << (24 - 8 * (i % 4));
            }
            x.feed(five[0], five[1], five[2], five[3], five[4]);
        }
        x.end(before + bytes.length);
    }

    static void lay(BrowArmy x, String text) {
        byte[] bytes = text.getBytes(StandardCharsets.ISO_8859_1);
        int[] numbers = new int[bytes.length];
        for (int i = 0; i < bytes.length; i++) {
            numbers[i] = bytes[i] & 255;
        }
        lay(x, numbers);
    }

    static int army(BrowArmy x, String text) {
        lay(x, text);
        return x.army();
    }

    static int book(BrowArmy x, int lives, String text) {
        lay(x, text);
        return x.book(lives);
    }

    static int sentence(BrowArmy x, String text) {
        lay(x, text);
        return x.sentence();
    }

    static BrowArmy of(String text) {
        BrowArmy x = new BrowArmy();
        if (army(x, text) < 0) {
            throw new IllegalStateException("the test's army has a fault: " + text);
        }
        return x;
    }

    /** A text of so many bytes: this one and blanks behind it. */
    static String padded(String text, int length) {
        return text + " ".repeat(length - text.length());
    }

    static String reportOf(BrowArmy x, int m) {
        int length = x.report(m);
        StringBuilder text = new StringBuilder();
        for (int i = 0; i < length; i++) {
            text.append((char) x.byteAt(i));
        }
        return text.toString();
    }
}
