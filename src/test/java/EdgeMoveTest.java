/** The edges of promises 8 to 13: reduce, round, exchange, pass, grow, shrink. */
public final class EdgeMoveTest {
    private static final int LEAST = Words.LEAST;
    private static final int MOST = Words.MOST;

    public static void main(String[] args) {
        reduceNoLetters();
        reduceOneLetter();
        reduceTwoLetters();
        reduceAtTheBeginningAndTheEnd();
        reduceAsLongAsThereAreAny();
        reduceWithoutEnds();
        reduceWithEnds();
        reduceOddOnesInTheMiddle();
        reduceElsewhereBeforeTheEnds();
        reduce32Letters();
        roundNoLetter();
        roundOneAndTwoLetters();
        round32Letters();
        exchangeNoSuchLetters();
        exchangeTheFirstAndTheLastTwo();
        exchangeValuesThatDifferByTwoOrMore();
        exchangeValuesThatDoNot();
        passNoSuchLetters();
        passTheFirstAndTheLastThree();
        passEachSign();
        passOtherValues();
        growFrom1AndTo8();
        grow8Strands();
        grow31And32Letters();
        growNoSuchSign();
        shrinkTo1();
        shrinkNoLetters();
        shrinkWhenTheLastLetterIsAnother();
        shrinkWhenAnotherLetterCrosses();
        shrink32Letters();
        Due.finish();
    }

    private static void reduces(String word, boolean ends, int gone, String left) {
        Edge.does("reduce, ends " + ends, word, (x, s) -> x.reduce(s, ends), gone, left);
    }

    private static void reducesBothWays(String word, int gone, String left) {
        reduces(word, false, gone, left);
        reduces(word, true, gone, left);
    }

    /** Promise 8: "how many letters went", when there are none. */
    private static void reduceNoLetters() {
        for (int n = 1; n <= 8; n++) {
            reducesBothWays(n + ":", 0, n + ":");
        }
    }

    /** Promise 8: "the first and the last one count as next to one another, when there are more than one" */
    private static void reduceOneLetter() {
        for (String word : new String[] {"2:1", "2:-1", "8:7", "8:-7"}) {
            reducesBothWays(word, 0, word);
        }
        reducesBothWays("3:2 1 -1", 2, "3:2");
        reducesBothWays("3:1 -1 2", 2, "3:2");
        reduces("3:1 2 -1", true, 2, "3:2");
    }

    /** Promise 8: "Letters i, -i or -i, i next to one another go" */
    private static void reduceTwoLetters() {
        reducesBothWays("2:1 -1", 2, "2:");
        reducesBothWays("2:-1 1", 2, "2:");
        reducesBothWays("8:7 -7", 2, "8:");
        reducesBothWays("8:-7 7", 2, "8:");
        for (String word : new String[] {"2:1 1", "2:-1 -1", "3:1 2", "3:1 -2", "3:-2 1", "8:-1 7"}) {
            reducesBothWays(word, 0, word);
        }
    }

    /** What is left moves up, and keeps its order. */
    private static void reduceAtTheBeginningAndTheEnd() {
        reducesBothWays("4:1 -1 2 3 2", 2, "4:2 3 2");
        reducesBothWays("4:2 3 2 -1 1", 2, "4:2 3 2");
        reducesBothWays("4:2 1 -1 3 2", 2, "4:2 3 2");
        reducesBothWays("4:-1 1 2 3 -3 2 1 -1", 6, "4:2 2");
        reducesBothWays("4:1 1 -1 3", 2, "4:1 3");
        reducesBothWays("4:3 -1 1 -1", 2, "4:3 -1");
    }

    /** Promise 8: "as long as there are any": those that come to be next to one another go, too. */
    private static void reduceAsLongAsThereAreAny() {
        reducesBothWays("4:1 2 -2 -1", 4, "4:");
        reducesBothWays("4:1 2 3 -3 -2 -1", 6, "4:");
        reducesBothWays("4:3 1 -2 2 -1 3", 4, "4:3 3");
        reducesBothWays("4:1 -1 -1 1 2 -2", 6, "4:");
        reducesBothWays("4:2 1 -1 -2 3 -1 1 -3 2", 8, "4:2");
    }

    /** Only with ends do the first and the last one count as next to one another. */
    private static void reduceWithoutEnds() {
        for (String word : new String[] {"3:1 2 -1", "3:-2 1 2", "4:1 3 -1", "3:1 2 2 -1", "8:-7 1 7"}) {
            reduces(word, false, 0, word);
        }
        reduces("3:1 2 -2 2 -1", false, 2, "3:1 2 -1");
    }

    /** Promise 8: "(with ends, the first and the last one count as next to one another ..)", as long as any do. */
    private static void reduceWithEnds() {
        reduces("3:1 2 -1", true, 2, "3:2");
        reduces("3:-2 1 2", true, 2, "3:1");
        reduces("3:1 2 2 -1", true, 2, "3:2 2");
        reduces("4:1 2 3 -2 -1", true, 4, "4:3");
        reduces("4:1 2 3 3 -2 -1", true, 4, "4:3 3");
        reduces("4:1 2 3 1 -3 -1", true, 2, "4:2 3 1 -3");
        for (String word : new String[] {"3:1 2 1", "3:1 2 -1 -1 2", "4:1 2 3 -2"}) {
            reduces(word, true, 0, word);
        }
    }

    /** Promise 8: "What is left keeps its order", when one end has more to go than the other. */
    private static void reduceOddOnesInTheMiddle() {
        reduces("3:1 1 2 -1", true, 2, "3:1 2");
        reduces("3:1 2 -1 -1", true, 2, "3:2 -1");
        reduces("3:1 1 2 -1 -1", true, 4, "3:2");
        reduces("3:1 2 1 -2 -1", true, 4, "3:1");
    }

    /** Promise 8: "with ends, none goes at both ends as long as any can go elsewhere." */
    private static void reduceElsewhereBeforeTheEnds() {
        reduces("3:1 2 1 -1", true, 2, "3:1 2");
        reduces("3:-1 1 2 1", true, 2, "3:2 1");
        reduces("3:1 2 2 1 -1", true, 2, "3:1 2 2");
        reduces("4:1 2 3 1 -1 1 -1", true, 4, "4:1 2 3");
        reduces("4:-1 1 -1 1 2 3 1", true, 4, "4:2 3 1");
        reduces("4:1 2 3 -3 1 -1", true, 4, "4:1 2");
        reduces("3:1 2 -2 2 -1", true, 4, "3:2");
    }

    /** Promise 8: "how many letters went", with 32 of them. */
    private static void reduce32Letters() {
        reducesBothWays(Words.row(2, 32, 1, -1), 32, "2:");
        reducesBothWays(Words.row(8, 32, -7, 7), 32, "8:");
        reducesBothWays(Words.row(8, 32, 1, 2), 0, Words.row(8, 32, 1, 2));
        reducesBothWays(nested(8, 16, ""), 32, "8:");
        reduces(nested(3, 15, " 2 2"), false, 0, nested(3, 15, " 2 2"));
        reduces(nested(3, 15, " 2 2"), true, 30, "3:2 2");
        reduces(nested(3, 15, " 2 1"), true, 30, "3:1 2");
        reduces(nested(3, 15, " 2 -2"), true, 32, "3:");
        Edge.does("a letter, when 32 went", Words.row(2, 32, 1, -1), (x, s) -> x.reduce(s, false) + x.letter(s, 1), 33,
            "2:1");
    }

    /** So many letters 1, a middle, and as many -1. */
    private static String nested(int n, int deep, String middle) {
        return Words.plain(n + ":" + " 1".repeat(deep) + middle + " -1".repeat(deep));
    }

    /** Promise 9: "false when there is no letter." */
    private static void roundNoLetter() {
        for (int n = 1; n <= 8; n++) {
            Edge.answers("round", n + ":", (x, s) -> x.round(s, false), false);
            Edge.answers("round back", n + ":", (x, s) -> x.round(s, true), false);
        }
    }

    /** Promise 9: "The first letter becomes the last one": of one letter, it is both. */
    private static void roundOneAndTwoLetters() {
        Edge.does("round", "2:-1", (x, s) -> x.round(s, false), true, "2:-1");
        Edge.does("round back", "2:-1", (x, s) -> x.round(s, true), true, "2:-1");
        Edge.does("round", "8:7 -1", (x, s) -> x.round(s, false), true, "8:-1 7");
        Edge.does("round back", "8:7 -1", (x, s) -> x.round(s, true), true, "8:-1 7");
        Edge.does("round", "8:7 -1 3", (x, s) -> x.round(s, false), true, "8:-1 3 7");
        Edge.does("round back", "8:7 -1 3", (x, s) -> x.round(s, true), true, "8:3 7 -1");
        Edge.does("round", "2:1 -1", (x, s) -> x.round(s, false), true, "2:-1 1");
    }

    /** Promise 9: "The first letter becomes the last one .. , or the last one the first", with 32 letters. */
    private static void round32Letters() {
        String row = Words.row(8, 30, 1, 2, 3, 4, 5);
        String word = Words.plain(row + " -6 -7");
        String round = Words.plain("8:" + row.substring("8:1".length()) + " -6 -7 1");
        String back = Words.plain("8:-7 " + row.substring("8:".length()) + " -6");
        Edge.does("round", word, (x, s) -> x.round(s, false), true, round);
        Edge.does("round back", word, (x, s) -> x.round(s, true), true, back);
        Edge.answers("round and round back", word, (x, s) -> x.round(s, false) && x.round(s, true), true);
        Edge.answers("round 32 times", word, (x, s) -> rounds(x, s, 32), 32);
    }

    private static int rounds(BraidWords x, int s, int many) {
        int done = 0;
        for (int turn = 0; turn < many; turn++) {
            done += x.round(s, false) ? 1 : 0;
        }
        return done;
    }

    private static void doesNotExchange(String word, int... places) {
        for (int k : places) {
            Edge.answers("exchange " + k, word, (x, s) -> x.exchange(s, k), false);
        }
    }

    private static void exchanges(String word, int k, String behind) {
        Edge.does("exchange " + k, word, (x, s) -> x.exchange(s, k), true, behind);
    }

    /** Promise 10: "false, doing nothing, when there are none such": letter k, or letter k + 1, is missing. */
    private static void exchangeNoSuchLetters() {
        doesNotExchange("1:", -1, 0, 1, LEAST, MOST);
        doesNotExchange("8:", -1, 0, 1, 30, 31, LEAST, MOST);
        doesNotExchange("8:7", -1, 0, 1, LEAST, MOST);
        doesNotExchange("8:1 7", -2, -1, 1, 2, 3, 256, LEAST, LEAST + 1, MOST - 1, MOST);
        doesNotExchange(Words.row(8, 32, 1, 7), -1, 31, 32, 33, LEAST, MOST);
        // Letters that went are none, wherever they were held.
        Edge.does("exchange with a letter that went", "8:1 5 7 -7", (x, s) -> x.reduce(s, false) == 2
            && x.exchange(s, 1), false, "8:1 5");
    }

    /** Promise 10: "Letters k and k + 1 are exchanged: true", for the least and the greatest k. */
    private static void exchangeTheFirstAndTheLastTwo() {
        exchanges("8:1 7", 0, "8:7 1");
        exchanges("8:1 7 2", 0, "8:7 1 2");
        exchanges("8:1 7 2", 1, "8:1 2 7");
        exchanges(Words.row(8, 32, 1, 7), 0, Words.plain("8:7 1" + " 1 7".repeat(15)));
        exchanges(Words.row(8, 32, 1, 7), 30, Words.plain("8:" + " 1 7".repeat(15) + " 7 1"));
    }

    /** Terms: "values (without sign) that differ by more than 1" */
    private static void exchangeValuesThatDifferByTwoOrMore() {
        for (int i = 1; i <= 7; i++) {
            for (int j = 1; j <= 7; j++) {
                for (int signs = 0; signs < 4 && Math.abs(i - j) > 1; signs++) {
                    int a = signs % 2 == 0 ? i : -i;
                    int b = signs / 2 == 0 ? j : -j;
                    exchanges("8:4 " + a + " " + b + " 4", 1, "8:4 " + b + " " + a + " 4");
                }
            }
        }
    }

    /** Promise 10: "false, doing nothing, when .. their values do not differ by more than 1." */
    private static void exchangeValuesThatDoNot() {
        for (int i = 1; i <= 7; i++) {
            for (int j = Math.max(1, i - 1); j <= Math.min(7, i + 1); j++) {
                for (int signs = 0; signs < 4; signs++) {
                    int a = signs % 2 == 0 ? i : -i;
                    int b = signs / 2 == 0 ? j : -j;
                    doesNotExchange("8:4 " + a + " " + b + " 4", 1);
                }
            }
        }
    }

    private static void doesNotPass(String word, int... places) {
        for (int k : places) {
            Edge.answers("pass " + k, word, (x, s) -> x.pass(s, k), false);
        }
    }

    private static void passes(String word, int k, String behind) {
        Edge.does("pass " + k, word, (x, s) -> x.pass(s, k), true, behind);
    }

    /** Promise 11: "false, doing nothing, when there are none such": one of the three letters is missing. */
    private static void passNoSuchLetters() {
        doesNotPass("1:", -1, 0, 1, LEAST, MOST);
        doesNotPass("8:", -1, 0, 1, 29, 30, 31, LEAST, MOST);
        doesNotPass("8:7", -2, -1, 0, 1, LEAST, MOST);
        doesNotPass("8:7 6", -1, 0, 1, 2, LEAST, MOST);
        doesNotPass("8:6 7 6", -3, -2, -1, 1, 2, 3, 256, LEAST, LEAST + 1, MOST - 2, MOST - 1, MOST);
        doesNotPass(Words.row(8, 32, 1, 2), -1, 30, 31, 32, LEAST, MOST);
        // Letters that went are none, wherever they were held.
        Edge.does("pass with a letter that went", "3:1 2 1 -1", (x, s) -> x.reduce(s, false) == 2 && x.pass(s, 0),
            false, "3:1 2");
        Edge.does("pass with two letters that went", "3:2 1 2 1 -1 -2", (x, s) -> x.reduce(s, false) == 4
            && x.pass(s, 0), false, "3:2 1");
    }

    /** Promise 11: "become c j, b i, a j: true", for the least and the greatest k. */
    private static void passTheFirstAndTheLastThree() {
        passes("3:1 2 1", 0, "3:2 1 2");
        passes("8:7 6 7", 0, "8:6 7 6");
        passes("8:7 6 7 7 6", 0, "8:6 7 6 7 6");
        passes("8:6 7 7 6 7", 2, "8:6 7 6 7 6");
        passes(Words.row(3, 32, 1, 2), 0, Words.plain("3:2 1 2 2" + " 1 2".repeat(14)));
        passes(Words.row(3, 32, 1, 2), 29, Words.plain("3:" + " 1 2".repeat(14) + " 1 1 2 1"));
    }

    /** Promise 11: "become c j, b i, a j: true; false, doing nothing, when .. a is c but not b." */
    private static void passEachSign() {
        for (int signs = 0; signs < 8; signs++) {
            int a = signs % 2 == 0 ? 1 : -1;
            int b = signs / 2 % 2 == 0 ? 1 : -1;
            int c = signs / 4 == 0 ? 1 : -1;
            for (int[] values : new int[][] {{1, 2}, {2, 1}, {6, 7}, {7, 6}}) {
                int i = values[0];
                int j = values[1];
                String word = "8:4 " + a * i + " " + b * j + " " + c * i + " 4";
                if (a == c && a != b) {
                    doesNotPass(word, 1);
                } else {
                    passes(word, 1, "8:4 " + c * j + " " + b * i + " " + a * j + " 4");
                }
            }
        }
    }

    /** Promise 11: "(.. i and j differing by 1)", and the first and the third value being the same. */
    private static void passOtherValues() {
        String[] words = {"8:1 1 1", "8:1 -1 1", "8:1 3 1", "8:3 1 3", "8:7 1 7", "8:1 2 2", "8:2 2 1", "8:1 2 3",
            "8:3 2 1", "8:2 1 3", "8:2 3 1", "8:1 2 -2", "8:-1 2 3", "8:1 -2 3", "8:7 6 5", "8:1 1 2", "8:2 -3 4"};
        for (String word : words) {
            doesNotPass(word, 0);
        }
    }

    /** Promise 12: "A strand more at the right, and behind the others the letter in which it crosses its neighbour" */
    private static void growFrom1AndTo8() {
        for (int n = 1; n <= 7; n++) {
            Edge.does("grow 1", n + ":", (x, s) -> x.grow(s, 1), true, n + 1 + ":" + n);
            Edge.does("grow -1", n + ":", (x, s) -> x.grow(s, -1), true, n + 1 + ":" + -n);
        }
        Edge.does("grow 1", "7:6 -1", (x, s) -> x.grow(s, 1), true, "8:6 -1 7");
        Edge.does("grow -1", "2:1 1", (x, s) -> x.grow(s, -1), true, "3:1 1 -2");
    }

    /** Promise 12: "false when .. there are 8 strands" */
    private static void grow8Strands() {
        for (String word : new String[] {"8:", "8:7", "8:1 -2", Words.row(8, 31, 7), Words.row(8, 32, 7)}) {
            Edge.answers("grow 1", word, (x, s) -> x.grow(s, 1), false);
            Edge.answers("grow -1", word, (x, s) -> x.grow(s, -1), false);
        }
    }

    /** Promise 12: "false when .. there are .. 32 letters." */
    private static void grow31And32Letters() {
        for (int n = 2; n <= 7; n++) {
            String behind = Words.plain(n + 1 + ":" + " -1".repeat(31) + " " + n);
            Edge.does("grow 1", Words.row(n, 31, -1), (x, s) -> x.grow(s, 1), true, behind);
            Edge.answers("grow 1", Words.row(n, 32, -1), (x, s) -> x.grow(s, 1), false);
            Edge.answers("grow -1", Words.row(n, 32, -1), (x, s) -> x.grow(s, -1), false);
        }
    }

    /** Promise 12: "false when there is no such .. sign" */
    private static void growNoSuchSign() {
        for (int sign : new int[] {0, 2, -2, 3, 255, 257, LEAST, LEAST + 1, MOST}) {
            for (String word : new String[] {"1:", "3:1 -2", "7:", "8:7", Words.row(2, 31, 1)}) {
                Edge.answers("grow " + sign, word, (x, s) -> x.grow(s, sign), false);
            }
        }
    }

    /** Promise 13: "The last letter goes, and the last strand" */
    private static void shrinkTo1() {
        for (int n = 2; n <= 8; n++) {
            Edge.does("shrink", n + ":" + (n - 1), (x, s) -> x.shrink(s), true, n - 1 + ":");
            Edge.does("shrink", n + ":" + (1 - n), (x, s) -> x.shrink(s), true, n - 1 + ":");
        }
        Edge.does("shrink", "3:1 1 2", (x, s) -> x.shrink(s), true, "2:1 1");
        Edge.does("shrink", "8:6 -6 5 -7", (x, s) -> x.shrink(s), true, "7:6 -6 5");
    }

    /** Promise 13: "false, doing nothing, otherwise.": there is no letter to go. */
    private static void shrinkNoLetters() {
        for (int n = 1; n <= 8; n++) {
            Edge.answers("shrink", n + ":", (x, s) -> x.shrink(s), false);
        }
        Edge.does("shrink twice", "2:1", (x, s) -> x.shrink(s) && x.shrink(s), false, "1:");
    }

    /** Promise 13: "when that letter crosses it with its neighbour" */
    private static void shrinkWhenTheLastLetterIsAnother() {
        for (String word : new String[] {"3:1", "3:2 1", "3:2 -1", "8:6", "8:7 6", "8:1", "8:7 -1", "4:1 2"}) {
            Edge.answers("shrink", word, (x, s) -> x.shrink(s), false);
        }
    }

    /** Promise 13: "and no other one does": not the first, not the one before, not one with the other sign. */
    private static void shrinkWhenAnotherLetterCrosses() {
        for (String word : new String[] {"2:1 1", "2:-1 1", "2:1 -1", "3:2 1 2", "3:-2 1 2", "3:2 1 -2", "3:1 2 2",
            "3:1 -2 2", "8:7 1 2 3 7", "8:1 2 7 3 -7", "8:1 2 3 -7 7", Words.row(8, 32, 7)}) {
            Edge.answers("shrink", word, (x, s) -> x.shrink(s), false);
        }
    }

    /** Promise 13: "when that letter crosses it .. and no other one does", with 31 other ones. */
    private static void shrink32Letters() {
        String most = Words.plain("8:" + " 6 -1".repeat(15) + " 6 7");
        Edge.does("shrink", most, (x, s) -> x.shrink(s), true, Words.plain("7:" + " 6 -1".repeat(15) + " 6"));
        String atFirst = Words.plain("8:7" + " 6 -1".repeat(15) + " -7");
        Edge.answers("shrink", atFirst, (x, s) -> x.shrink(s), false);
        Edge.answers("shrink and grow", most, (x, s) -> x.shrink(s) && x.grow(s, 1), true);
    }
}
