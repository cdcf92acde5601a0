/** Boundary cases of FAULTS, in each of the three texts (promise 5). */
public final class EdgeFaultTest {
    private static final Edge EDGE = new Edge();

    public static void main(String[] args) {
        theFirstAlongTheText();
        ofOneTokenTheLeast();
        whatCannotComeInAnArmy();
        whatCannotComeInABook();
        whatCannotComeInASentence();
        atTheEnd();
        atTheMostBytes();
        tokensAheadAreReadWhole();
        numbersNotAsTold();
        namesNotAsTold();
        twoLiftsAgain();
        clearOrRainAgain();
        oneMoreOfASort();
        EDGE.finish();
    }

    private static void theFirstAlongTheText() {
        EDGE.of(5, "FAULTS, the first along the text, of one TOKEN the least");
        EDGE.armyFault("man a 31 0 10;man a 0 0 0;?", 6, 2);
        EDGE.armyFault("man a 0 0 10;? ", 10, 2);
        EDGE.armyFault("man a 0 0 0;man a 31 0 0;", 16, 3);
        EDGE.armyFault("order a;?", 7, 1);
        EDGE.armyFault("order a left;?", 12, 1);
        EDGE.bookFault(new BrowArmy(), "hour;?", 4, 1);
        EDGE.bookFault(EDGE.army("man a 0 0 9;", 1), "a;?", 1, 1);
        EDGE.armyFault("man a 0 0 0?man a 31 0 0;", 11, 1);
        EDGE.armyFault(Edge.eightMen() + "man a 31 0 0;", 96, 4);
        EDGE.armyFault(Edge.sevenOrders() + "order p left left;", Edge.sevenOrders().length(), 4);
    }

    private static void ofOneTokenTheLeast() {
        EDGE.of(5, "FAULTS, the first along the text, of one TOKEN the least");
        BrowArmy x = EDGE.army("man a 0 0 9;order o left left;", 2);
        String forty = "hour 1;".repeat(40);
        // no token or one that can't come, a name that is none, one line more: all at the 41st line's first
        EDGE.bookFault(x, forty + "?", 280, 1);
        EDGE.bookFault(x, forty + "left", 280, 1);
        EDGE.bookFault(x, forty + "zz", 280, 3);
        EDGE.bookFault(x, forty + "o", 280, 3);
        EDGE.bookFault(x, forty + "a", 280, 4);
        EDGE.bookFault(x, forty + "hour", 280, 4);
        String twenty = "idle" + " or idle".repeat(19) + " or ";
        EDGE.sentenceFault(x, twenty + "?", twenty.length(), 1);
        EDGE.sentenceFault(x, twenty + "a", twenty.length(), 1);
        EDGE.sentenceFault(x, twenty + "idle", twenty.length(), 4);
        EDGE.armyFault("man a 999x 0 0;", 6, 1);
    }

    private static boolean isOf(String word, String words) {
        return java.util.List.of(words.split(" ")).contains(word);
    }

    private static void whatCannotComeInAnArmy() {
        EDGE.of(5, "1 no TOKEN, or one that can't come (at it");
        for (String word : Edge.TOLD_WORDS) {
            EDGE.armyFault(word + ";", isOf(word, "man under order foe clear rain") ? word.length() : 0, 1);
            if (isOf(word, "left right both")) {
                EDGE.army("order a " + word + " left;", 1);
                EDGE.army("order a left " + word + ";", 1);
            } else {
                EDGE.armyFault("order a " + word + " left;", 8, 1);
                EDGE.armyFault("order a left " + word + ";", 13, 1);
            }
            EDGE.armyFault("rain " + word + ";", 5, 1);
            EDGE.armyFault("foe 0 " + word + ";", 6, 1);
            EDGE.armyFault("rain 6 " + word + ";", 7, 1);
            if (!isOf(word, "joined grey")) {
                EDGE.armyFault("man a 0 0 0 " + word + ";", 12, 1);
            }
        }
        for (String token : new String[] {"zz", "7", "<", "=", ">", "(", ")", ".", ",", "-"}) {
            EDGE.armyFault(token + " a 0 0 0;", 0, 1);
            EDGE.armyFault("man a 0 0 0 " + token, 12, 1);
        }
    }

    private static void whatCannotComeInABook() {
        EDGE.of(5, "1 no TOKEN, or one that can't come (at it");
        for (String word : Edge.TOLD_WORDS) {
            BrowArmy x = EDGE.army("man a 5 5 9;order o left left;", 2);
            EDGE.bookFault(x, word + ";", word.equals("hour") ? 4 : 0, 1);
            if (!isOf(word, "sleeps wakes soots")) {
                EDGE.bookFault(x, "a " + word + ";", isOf(word, "lifts gives goes") ? 2 + word.length() : 2, 1);
            }
            if (!isOf(word, "left right both")) {
                EDGE.bookFault(x, "a lifts " + word + ";", 8, 1);
            }
            if (!isOf(word, "east south west north")) {
                EDGE.bookFault(x, "a goes " + word + ";", 7, 1);
            }
            EDGE.bookFault(x, "a gives " + word + ";", 8, 1);
            EDGE.bookFault(x, "hour " + word + ";", 5, 1);
            EDGE.bookFault(x, "a sleeps " + word + ";", 9, 1);
        }
        EDGE.book(EDGE.army("man a 5 5 9;order o left left;", 2),
            "a sleeps;a wakes;a soots;a lifts both;a gives o;a goes north;hour 1;");
    }

    private static void whatCannotComeInASentence() {
        EDGE.of(5, "1 no TOKEN, or one that can't come (at it");
        for (String word : Edge.TOLD_WORDS) {
            BrowArmy x = EDGE.army("man a 5 5 9;order o left left;", 2);
            if (isOf(word, "asleep sooted joined grey idle")) {
                EDGE.sentence(x, word, 1, word.equals("idle") ? 1 : 0);
            } else {
                boolean begins = isOf(word, "not under sees has brow heard lost number");
                EDGE.sentenceFault(x, word, begins ? word.length() : 0, 1);
            }
            EDGE.sentenceFault(x, "idle " + word, isOf(word, "or and") ? 5 + word.length() : 5, 1);
            EDGE.sentenceFault(x, "under " + word, 6, 1);
            EDGE.sentenceFault(x, "sees " + word, 5, 1);
            EDGE.sentenceFault(x, "has " + word, 4, 1);
            EDGE.sentenceFault(x, "brow " + word, 5, 1);
            EDGE.sentenceFault(x, "lost<" + word, 5, 1);
        }
        for (String token : new String[] {";", "(", ")", ".", ",", "zz", "7"}) {
            EDGE.sentenceFault(new BrowArmy(), "number " + token + " 1", 7, 1);
        }
    }

    private static void atTheEnd() {
        EDGE.of(5, "the end: how many bytes there are");
        String line = "man a 30 30 9 joined grey;";
        for (int length = 1; length < line.length(); length++) {
            String text = line.substring(0, length);
            // a word that is cut can't come, where it is not a name
            int cut = text.matches("ma?") ? 0 : text.matches(".*9 j[a-z]*") && !text.endsWith("joined") ? 14
                : text.matches(".*joined g[a-z]*") && !text.endsWith("grey") ? 21 : length;
            EDGE.armyFault(text, cut, 1);
        }
        EDGE.armyFault("man a 0 0 0  ", 13, 1);
        EDGE.armyFault("man a 0 0 0\n\n", 13, 1);
        EDGE.armyFault(Due.padded("rain", 900), 900, 1);
        BrowArmy x = EDGE.army("man a 0 0 9;", 1);
        EDGE.bookFault(x, "a ", 2, 1);
        EDGE.bookFault(x, Due.padded("a sleeps", 400), 400, 1);
        EDGE.sentenceFault(x, "", 0, 1);
        EDGE.sentenceFault(x, "\n \n", 3, 1);
        EDGE.sentenceFault(x, Due.padded("idle and", 200), 200, 1);
    }

    private static void atTheMostBytes() {
        EDGE.of(5, "the most bytes told, if there are more and no FAULT is ahead");
        EDGE.armyFault(Due.padded("man a 0 0", 901), 900, 1);
        EDGE.armyFault(Due.padded("man a 0 0", 940), 900, 1);
        EDGE.armyFault(Due.padded("rain 6;", 900) + "?", 900, 1);
        EDGE.armyFault(Due.padded("rain 6;", 905) + "clear 9;", 900, 1);
        EDGE.armyFault(Due.padded("rain 6;", 910) + "?", 900, 1);
        // a fault ahead
        EDGE.armyFault(Due.padded("rain 31;", 940), 5, 2);
        EDGE.armyFault(Due.padded("rain 6;", 899) + "?" + " ".repeat(40), 899, 1);
        EDGE.armyFault(Due.padded("rain 6;", 899) + ";", 899, 1);
        BrowArmy x = EDGE.army("man a 0 0 9;", 1);
        EDGE.bookFault(x, Due.padded("a sleeps;", 401), 400, 1);
        EDGE.bookFault(x, Due.padded("a sleep;", 940), 2, 1);
        EDGE.sentenceFault(x, Due.padded("idle", 201), 200, 1);
        EDGE.sentenceFault(x, Due.padded("idle idle", 940), 5, 1);
    }

    private static void tokensAheadAreReadWhole() {
        EDGE.of(5, "TOKENS that begin ahead of it are read whole");
        EDGE.armyFault(Due.padded("rain", 899) + "30", 900, 1);
        EDGE.armyFault(Due.padded("rain", 899) + "31", 899, 2);
        EDGE.armyFault(Due.padded("rain", 899) + "300", 899, 2);
        EDGE.armyFault(Due.padded("rain", 899) + "3000", 899, 1);
        EDGE.armyFault(Due.padded("rain", 900) + "31", 900, 1);
        EDGE.armyFault(Due.padded("rain 6;", 899) + "clear 2;", 900, 1);
        EDGE.armyFault(Due.padded("rain 6;", 899) + "cleary", 899, 1);
        EDGE.armyFault(Due.padded("rain 6;", 899) + "rain", 899, 3);
        EDGE.armyFault(Due.padded("rain 6;", 900) + "rain", 900, 1);
        EDGE.armyFault(Due.padded("rain 6", 899) + "; ", 900, 1);
        EDGE.armyFault(Due.padded("man", 899) + "a".repeat(7), 900, 1);
        EDGE.armyFault(Due.padded("man", 899) + "a".repeat(8), 899, 1);
        BrowArmy x = EDGE.army("man ab 0 0 9;", 1);
        EDGE.bookFault(x, " ".repeat(399) + "ab sleeps;", 400, 1);
        EDGE.bookFault(x, " ".repeat(399) + "ac sleeps;", 399, 3);
        EDGE.bookFault(x, Due.padded("hour", 399) + "60;", 400, 1);
        EDGE.bookFault(x, Due.padded("hour", 399) + "61;", 399, 2);
        EDGE.sentenceFault(x, " ".repeat(199) + "idle", 200, 1);
        EDGE.sentenceFault(x, " ".repeat(199) + "idol", 199, 1);
        EDGE.sentenceFault(x, Due.padded("under", 199) + "ab", 200, 1);
        EDGE.sentenceFault(x, Due.padded("under", 199) + "ac", 199, 3);
    }

    private static void numbersNotAsTold() {
        EDGE.of(5, "2 a NUMBER that is not as told (at it)");
        EDGE.armyFault("man  a  31 0 0;", 8, 2);
        EDGE.armyFault("man a 0 0 \n10;", 11, 2);
        EDGE.armyFault("rain  0", 6, 2);
        BrowArmy x = EDGE.army("man a 0 0 9;", 1);
        EDGE.bookFault(x, "hour  61", 6, 2);
        // a sentence takes every number
        EDGE.sentence(x, "brow<000", 1, 0);
        EDGE.sentence(x, "brow<999", 1, 1);
    }

    private static void namesNotAsTold() {
        EDGE.of(5, "3 a NAME told twice, not told, or of another sort");
        EDGE.armyFault("under a b;", 6, 3);
        EDGE.armyFault("man a 0 0 0;under a b;", 20, 3);
        EDGE.armyFault("man a 0 0 0;under a b;man b 0 0 0;", 20, 3);
        EDGE.armyFault("order o left left;under o o;", 24, 3);
        EDGE.armyFault("man a 0 0 0;order o left left;under a o;", 38, 3);
        BrowArmy x = EDGE.army("man a 0 0 9;order o left left;", 2);
        EDGE.bookFault(x, "b sleeps;", 0, 3);
        EDGE.bookFault(x, "o sleeps;", 0, 3);
        EDGE.bookFault(x, "a gives b;", 8, 3);
        EDGE.bookFault(x, "a gives a;", 8, 3);
        EDGE.sentenceFault(x, "under b", 6, 3);
        EDGE.sentenceFault(x, "sees o", 5, 3);
        EDGE.sentenceFault(x, "has a", 4, 3);
        // names of an army ahead of it are not told
        Due.army(x, "man c 0 0 9;order p left left;");
        EDGE.bookFault(x, "a sleeps;", 0, 3);
        EDGE.bookFault(x, "c gives o;", 8, 3);
        EDGE.sentenceFault(x, "under a", 6, 3);
        EDGE.army("man a 0 0 0;order o left left;", 2);
    }

    private static void twoLiftsAgain() {
        EDGE.of(5, "two lifts that another ORDER has (at the second)");
        EDGE.armyFault("order a left both;order b left both;", 31, 3);
        EDGE.armyFault("order a left both;order b both both;order c  left \n both", 52, 3);
        EDGE.armyFault("order a left both;order b left both?", 31, 3);
        // ahead of the second there may be another fault
        EDGE.armyFault("order a left both;order a left both;", 24, 3);
        EDGE.armyFault("order a left both;order b up both;", 26, 1);
    }

    private static void clearOrRainAgain() {
        EDGE.of(5, "'clear', 'rain' told again (at the WORD)");
        EDGE.armyFault("clear 2; clear", 9, 3);
        EDGE.armyFault("rain 6;\nrain", 8, 3);
        EDGE.armyFault("clear 2;rain 6;clear 0;", 15, 3);
        EDGE.armyFault("rain 6;clear 2;rain x;", 15, 3);
        EDGE.army("rain 6;clear 2;", 2);
        // told in an army ahead of it is not told again
        BrowArmy x = EDGE.army("clear 3;rain 7;", 2);
        EDGE.is("army()", Due.army(x, "clear 4;rain 8;"), 2);
        EDGE.is("army() with a fault", Due.army(x, "clear 5;rain 9;?"), -16);
        EDGE.is("army()", Due.army(x, "clear 1;rain 1;"), 2);
    }

    private static void oneMoreOfASort() {
        EDGE.of(5, "4 one more than there may be of a sort, a 41st LINE of a BOOK (at the LINE's first WORD)");
        EDGE.armyFault(Edge.eightMen() + "  man", 98, 4);
        EDGE.armyFault(Edge.sevenOrders() + "\norder", Edge.sevenOrders().length() + 1, 4);
        EDGE.armyFault("foe 0 0;foe 0 0;foe 0 0;foe 0 0; foe", 33, 4);
        BrowArmy x = EDGE.army("man a 0 0 9;", 1);
        EDGE.bookFault(x, "hour 1;".repeat(40) + "  a", 282, 4);
        EDGE.bookFault(x, "hour 1;".repeat(40) + "  hour", 282, 4);
    }
}
