import java.io.IOException;
import java.nio.file.Files;
import java.nio.file.Path;

/**
 * What the tests of boundary cases share. Each of them begins with the promise that it is of and the
 * document's own words, so that a failure names both, and words that the document has no more are told.
 */
final class Edge {
    private static final Path DOCUMENT = Path.of("../shared/DOC.md");

    static final String[] TOLD_WORDS = {"man", "joined", "grey", "under", "order", "foe", "clear", "rain",
        "left", "right", "both", "lifts", "gives", "sleeps", "wakes", "soots", "goes", "hour", "east", "south", "west",
        "north", "or", "and", "not", "asleep", "sooted", "idle", "sees", "has", "brow", "heard", "lost", "number"};
    private static final String[] LIFTS = {"left", "right", "both"};

    private final Due due = new Due();
    private final String document;
    private String heading = "";

    Edge() {
        String text;
        try {
            text = Files.readString(DOCUMENT);
        } catch (IOException e) {
            text = "";
        }
        document = text.replaceAll("\\s+", " ");
    }

    /** The promise, and the words of the document that the answers from here on are due by. */
    void of(int promise, String words) {
        heading = "Promise " + promise + ", '" + words + "': ";
        is("the document says so", document.contains(words), true);
    }

    void is(String call, long got, long want) {
        due.is(heading + call, got, want);
    }

    void is(String call, boolean got, boolean want) {
        due.is(heading + call, got, want);
    }

    void isText(String call, String got, String want) {
        due.isText(heading + call, got, want);
    }

    void finish() {
        due.finish();
    }

    // ---- texts

    private void read(String call, int got, int want, BrowArmy x, int kind) {
        is(call, got, want);
        is("fault() of " + call, x.fault(), kind);
        is("count(5) behind " + call, x.count(5), 0);
    }

    /** The army's text is taken, and has so many lines. */
    BrowArmy army(String text, int lines) {
        BrowArmy x = new BrowArmy();
        read("army() of '" + text + "'", Due.army(x, text), lines, x, 0);
        return x;
    }

    void armyFault(String text, int place, int kind) {
        BrowArmy x = new BrowArmy();
        read("army() of '" + text + "'", Due.army(x, text), -1 - place, x, kind);
    }

    /** The book's text is taken, and no line is wrong. */
    void book(BrowArmy x, String text) {
        read("book(1) of '" + text + "'", Due.book(x, 1, text), BrowArmy.NONE, x, 0);
    }

    void bookFault(BrowArmy x, String text, int place, int kind) {
        for (int lives = 0; lives <= 1; lives++) {
            read("book(" + lives + ") of '" + text + "'", Due.book(x, lives, text), -2 - place, x, kind);
        }
    }

    /** The sentence's text is taken, has so many ones, and may be said of these men, as bits. */
    void sentence(BrowArmy x, String text, int ones, int men) {
        read("sentence() of '" + text + "'", Due.sentence(x, text), ones, x, 0);
        is("men of '" + text + "'", said(x), men);
    }

    void sentenceFault(BrowArmy x, String text, int place, int kind) {
        read("sentence() of '" + text + "'", Due.sentence(x, text), -1 - place, x, kind);
    }

    /** Of whom the sentence may be said, as bits. */
    static int said(BrowArmy x) {
        int men = 0;
        for (int k = 0; k < x.said(BrowArmy.NONE); k++) {
            men |= 1 << x.said(k);
        }
        return men;
    }

    /** The texts of as many men, and of as many orders, as there may be. */
    static String eightMen() {
        StringBuilder men = new StringBuilder();
        for (char c = 'a'; c <= 'h'; c++) {
            men.append("man ").append(c).append(" 0 0 0;");
        }
        return men.toString();
    }

    static String sevenOrders() {
        StringBuilder orders = new StringBuilder();
        for (int i = 0; i < 7; i++) {
            orders.append("order ").append((char) ('p' + i)).append(' ').append(LIFTS[i / 3]).append(' ')
                .append(LIFTS[i % 3]).append(';');
        }
        return orders.toString();
    }

    // ---- what is so

    void man(BrowArmy x, int m, int what, int want) {
        is("man(" + m + ", " + what + ")", x.man(m, what), want);
    }

    void now(BrowArmy x, int what, int want) {
        is("now(" + what + ")", x.now(what), want);
    }

    void noMan(BrowArmy x, int m, int what) {
        boolean thrown = false;
        try {
            x.man(m, what);
        } catch (java.util.NoSuchElementException e) {
            thrown = e.getClass() == java.util.NoSuchElementException.class;
        }
        is("man(" + m + ", " + what + ") throws", thrown, true);
    }

    /** Hours go by till it is that one. */
    static void till(BrowArmy x, int hour) {
        for (int n = 0; n < 400 && x.now(0) < hour; n++) {
            x.hours(Math.min(60, hour - x.now(0)));
        }
    }

    /** The numbers just outside of least to most, and the farthest ones. */
    static int[] outside(int least, int most) {
        return new int[] {least - 1, most + 1, -77, 1 << 16, Integer.MIN_VALUE, Integer.MAX_VALUE};
    }
}
