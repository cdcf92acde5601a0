import java.util.ArrayList;
import java.util.List;
import java.util.regex.Matcher;
import java.util.regex.Pattern;

/**
 * Promises 4, 5, 37 and 39: every token in every place of texts that are as told, one left out, one more, and
 * the text cut at every byte; each answered by the class as by the model.
 */
public final class EveryTokenTest {
    private static final Due DUE = new Due();
    private static final Pattern TOKEN = Pattern.compile("[a-z0-9]+|[^ \\n]");
    private static final String ARMY = "man a 0 30 9 joined grey;man b 1 2 3;order o left right;under a b;"
        + "foe 30 0;clear 5;rain 30;order p both both;man c 7 7 7 grey;under b c;";
    private static final String BOOK = "a lifts left;b gives o;a sleeps;a wakes;hour 60;b soots;c goes east;hour 1;";
    private static final String SENTENCE = "not (asleep or sooted and under a)or sees b and has o or brow<9 and heard=0"
        + " or lost>99 and not number=2 or (joined and(grey or idle))";
    private static final String[] TOKENS = {"man", "joined", "grey", "under", "order", "foe", "clear", "rain", "left",
        "right", "both", "lifts", "gives", "sleeps", "wakes", "soots", "goes", "hour", "east", "south", "west", "north",
        "or", "and", "not", "asleep", "sooted", "idle", "sees", "has", "brow", "heard", "lost", "number", "a", "b", "c",
        "o", "p", "x", "abcdefg", "abcdefgh", "0", "1", "2", "5", "6", "9", "10", "30", "31", "60", "61", "999", "0000",
        "a1", "1a", ";", "<", "=", ">", "(", ")", ".", "?", "A", "\t", "\u00e9"};

    private interface Call {
        int of(BrowArmy x, Model model, boolean isModel);
    }

    public static void main(String[] args) {
        everyChangeOf(ARMY, (x, model, isModel) -> isModel ? model.army() : x.army());
        everyChangeOf(BOOK, (x, model, isModel) -> isModel ? model.book(1) : x.book(1));
        everyChangeOf(SENTENCE, (x, model, isModel) -> isModel ? model.sentence() : x.sentence());
        DUE.finish();
    }

    private static void everyChangeOf(String text, Call call) {
        List<int[]> places = new ArrayList<>();
        Matcher matcher = TOKEN.matcher(text);
        while (matcher.find()) {
            places.add(new int[] {matcher.start(), matcher.end()});
        }
        same(text, call);
        for (int[] place : places) {
            String ahead = text.substring(0, place[0]);
            String behind = text.substring(place[1]);
            same(ahead + behind, call);
            for (String token : TOKENS) {
                same(ahead + token + behind, call);
                same(ahead + token + " " + text.substring(place[0]), call);
            }
        }
        for (int length = 0; length < text.length(); length++) {
            same(text.substring(0, length), call);
            same(text.substring(0, length) + " ;?", call);
        }
    }

    private static void lay(BrowArmy x, Model model, String text) {
        Due.lay(x, text);
        for (int at = 0; at < text.length(); at += 20) {
            int[] five = new int[5];
            for (int i = 0; i < 20 && at + i < text.length(); i++) {
                five[i / 4] |= text.charAt(at + i) << (24 - 8 * (i % 4));
            }
            model.feed(five);
        }
        model.end(text.length());
    }

    private static void same(String text, Call call) {
        BrowArmy x = new BrowArmy();
        Model model = new Model();
        lay(x, model, ARMY);
        x.army();
        model.army();
        lay(x, model, text);
        DUE.is("the text '" + text + "'", call.of(x, model, false), call.of(x, model, true));
        DUE.is("fault() of '" + text + "'", x.fault(), model.fault());
        for (int what = 0; what < 6; what++) {
            DUE.is("count(" + what + ") of '" + text + "'", x.count(what), model.count(what));
        }
        for (int what = 0; what < 4; what++) {
            DUE.is("told(" + what + ") of '" + text + "'", x.told(what), model.told(what));
        }
        for (int k = -1; k < 3; k++) {
            DUE.is("said(" + k + ") of '" + text + "'", x.said(k), model.said(k));
        }
    }
}
