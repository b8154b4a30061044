/** The edges of promises 14 to 17: same, form, length, crossing. */
public final class EdgeFormTest {
    private static final int LEAST = Words.LEAST;
    private static final int MOST = Words.MOST;
    private static final String TURN_8 =
        "8:1 2 1 3 2 1 4 3 2 1 5 4 3 2 1 6 5 4 3 2 1 7 6 5 4 3 2 1";
    private static final String TURN_8_OTHERWISE =
        "8:7 6 7 5 6 7 4 5 6 7 3 4 5 6 7 2 3 4 5 6 7 1 2 3 4 5 6 7";
    private static final String TURN_8_BACK =
        "8:-1 -2 -1 -3 -2 -1 -4 -3 -2 -1 -5 -4 -3 -2 -1 -6 -5 -4 -3 -2 -1 -7 -6 -5 -4 -3 -2 -1";

    public static void main(String[] args) {
        sameSlotTwice();
        sameWithOtherStrands();
        sameOfNoLetters();
        sameWhenTwoLettersComeOrGo();
        sameWhenTwoLettersAreExchanged();
        sameWhenThreeLettersPass();
        sameOf32Letters();
        formWhenJIs0();
        formOfEachS();
        formOfNoSuchS();
        formOfNoSuchPlace();
        formWithOneStrand();
        formWithTwoStrands();
        formOfNoLetters();
        formOfTurns();
        formOf32Letters();
        formBehindARefusedCall();
        formBehindAChange();
        lengthOfTheLeast();
        lengthOfTheMost();
        crossingOfOneLetter();
        crossingLabelsAreTheNextTwo();
        crossingOf32Letters();
        crossingNoSuchLetter();
        crossingNoSuchThing();
        crossingOfNoLetters();
        Due.finish();
    }

    /** In either order, and in whatever slots; the slots are as they were. */
    private static void sameIs(String left, String right, boolean want) {
        for (int r = 0; r < 4; r++) {
            for (int s = 0; s < 4; s++) {
                if (r == s) {
                    continue;
                }
                BraidWords x = new BraidWords();
                Words.put(x, r, left);
                Words.put(x, s, right);
                String what = "same(" + r + ", " + s + ") of " + left + " and " + right;
                Due.equal(what, x.same(r, s), want);
                Due.equal(what + ", left then", Words.word(x, r), Words.plain(left));
                Due.equal(what + ", right then", Words.word(x, s), Words.plain(right));
                Due.equal(what + ", again", x.same(r, s), want);
            }
        }
    }

    /** Promise 14, when r is s. */
    private static void sameSlotTwice() {
        for (String word : new String[] {"1:", "8:", "2:1", "3:1 -2", TURN_8, Words.row(8, 32, -7, 1)}) {
            Edge.answers("same", word, (x, s) -> x.same(s, s), true);
        }
    }

    /** Promise 14: "the words of two slots, with as many strands" */
    private static void sameWithOtherStrands() {
        for (int n = 1; n <= 7; n++) {
            sameIs(n + ":", n + 1 + ":", false);
        }
        sameIs("1:", "8:", false);
        sameIs("2:1", "3:1", false);
        sameIs("7:1 -2 6", "8:1 -2 6", false);
        sameIs("2:1 -1", "3:1 -1", false);
        sameIs("2:-1", "3:-1", false);
        sameIs("2:1", "3:1 2 1", false);
    }

    /** Promise 14: "Whether the words of two slots .. are one braid", when there are no letters. */
    private static void sameOfNoLetters() {
        for (int n = 1; n <= 8; n++) {
            sameIs(n + ":", n + ":", true);
        }
        sameIs("2:", "2:1", false);
        sameIs("2:", "2:-1", false);
        sameIs("8:", "8:7 7", false);
    }

    /** Terms: "two letters i, -i or -i, i next to one another come or go anywhere" */
    private static void sameWhenTwoLettersComeOrGo() {
        sameIs("2:", "2:1 -1", true);
        sameIs("2:", "2:-1 1", true);
        sameIs("8:", "8:7 -7", true);
        sameIs("4:1 -2 3", "4:2 -2 1 -2 3", true);
        sameIs("4:1 -2 3", "4:1 -3 3 -2 3", true);
        sameIs("4:1 -2 3", "4:1 -2 3 1 -1", true);
        sameIs("4:1 -2 3", "4:1 2 -2 -2 3 -1", false);
        sameIs("2:1 1", "2:", false);
        sameIs("2:1", "2:-1", false);
        // The first and the last letter are not next to one another here, as they are with a closure.
        sameIs("3:1 2 -1", "3:2", false);
        sameIs("3:1 2", "3:2 1", false);
    }

    /** Terms: "values (without sign) that differ by more than 1 are exchanged" */
    private static void sameWhenTwoLettersAreExchanged() {
        sameIs("4:1 3", "4:3 1", true);
        sameIs("4:-1 3", "4:3 -1", true);
        sameIs("4:-1 -3", "4:-3 -1", true);
        sameIs("8:1 7", "8:7 1", true);
        sameIs("3:1 2", "3:2 1", false);
        sameIs("3:-1 2", "3:2 -1", false);
        sameIs("8:6 -7", "8:-7 6", false);
    }

    /** Terms: "three letters i, j, i .. , all above 0, their values differing by 1, become j, i, j" */
    private static void sameWhenThreeLettersPass() {
        sameIs("3:1 2 1", "3:2 1 2", true);
        sameIs("8:7 6 7", "8:6 7 6", true);
        sameIs("3:-1 -2 -1", "3:-2 -1 -2", true);
        sameIs("3:1 2 -1", "3:-2 1 2", true);
        sameIs("3:1 -2 -1", "3:-2 -1 2", true);
        sameIs("3:1 -2 1", "3:2 -1 2", false);
        sameIs("3:-1 2 -1", "3:-2 1 -2", false);
        sameIs("4:1 3 1", "4:3 1 3", false);
    }

    /** Terms: "(In between there may be any number of letters.)", up to 32. */
    private static void sameOf32Letters() {
        sameIs(Words.row(2, 32, 1, -1), "2:", true);
        sameIs(Words.row(8, 32, 7, -7), "8:", true);
        sameIs(Words.row(8, 32, 7), Words.row(8, 31, 7), false);
        sameIs(Words.row(8, 32, 7), Words.row(8, 32, -7), false);
        sameIs(Words.row(8, 32, 1, 7), Words.row(8, 32, 7, 1), true);
        sameIs(Words.row(3, 32, 1, 2), Words.row(3, 32, 2, 1), false);
        sameIs(Words.row(3, 30, 1, 2), Words.row(3, 30, 2, 1), true);
        sameIs(TURN_8, TURN_8_OTHERWISE, true);
        sameIs(TURN_8 + " 1 2 3 4", "8:7 6 5 4 " + TURN_8.substring("8:".length()), true);
        sameIs(TURN_8 + " 1 2 3 4", "8:1 2 3 4 " + TURN_8.substring("8:".length()), false);
    }

    private static void formIs(String word, String want) {
        for (int s = 0; s < 4; s++) {
            BraidWords x = new BraidWords();
            Words.put(x, s, word);
            Due.equal("form of " + word + " in slot " + s, Words.normalForm(x, s), want);
        }
    }

    private static void formAt(String word, int j, int p, int want) {
        Edge.answers("form " + j + ", " + p, word, (x, s) -> x.form(s, j, p), want);
    }

    /** Promise 15: "k when j is 0 (p is not looked at)" */
    private static void formWhenJIs0() {
        for (int p : new int[] {0, 1, 3, 4, -1, 9, LEAST, MOST}) {
            formAt("3:1 2 1 1", 0, p, 1);
            formAt("3:1 -2", 0, p, -1);
            formAt("3:1 2", 0, p, 0);
            formAt("2:1 1 1", 0, p, 3);
            formAt("1:", 0, p, 0);
            formAt(Words.row(8, 32, -7), 0, p, -32);
        }
    }

    /** Promise 15: "otherwise of Sj what p becomes", from the first to the last j and p. */
    private static void formOfEachS() {
        formIs("3:1 -2", "-1 132 231");
        formIs("3:2 2 1", "0 132 231");
        formIs("3:1 2 1 1", "1 213");
        formIs("3:-1", "-1 312");
        formIs("3:-2", "-1 231");
        formIs("8:7", "0 12345687");
        formIs("8:1 3 5 7", "0 21436587");
        formIs("8:-1", "-1 87654312");
        formIs("8:-1 -1", "-2 78654321 87654312");
    }

    /** Promise 15: "0 when there is no such .. Sj" */
    private static void formOfNoSuchS() {
        for (int j : new int[] {-1, -2, 3, 4, 32, 33, 256, LEAST, LEAST + 1, MOST}) {
            for (int p = 1; p <= 3; p++) {
                formAt("3:1 -2", j, p, 0);
            }
        }
        formAt("3:1 2 1", 1, 1, 0);
        formAt("3:1 2 1", -1, 1, 0);
        formAt("3:1 2 1 1", 2, 1, 0);
        formAt("8:1 -1", 1, 1, 0);
        // A row that was there for a longer word is none for a shorter one.
        Edge.does("form behind a reduce", "3:2 1 1 -2", (x, s) -> x.length(s) == 3 && x.reduce(s, true) == 2
            ? x.form(s, 3, 1) : -1, 0, "3:1 1");
        Edge.does("form behind strands", "3:1 1", (x, s) -> x.length(s) + x.form(s, x.strands(s, 3) ? 1 : 0, 1), 2,
            "3:");
    }

    /** Promise 15: "0 when there is no such .. place." */
    private static void formOfNoSuchPlace() {
        for (int p : new int[] {0, -1, -3, 4, 5, 8, 9, 256, LEAST, LEAST + 1, MOST}) {
            formAt("3:1 -2", 1, p, 0);
            formAt("3:1 -2", 2, p, 0);
        }
        formAt("8:7", 1, 0, 0);
        formAt("8:7", 1, 9, 0);
        formAt("8:7", 1, 8, 7);
        formAt("8:7", 1, 1, 1);
        // A place of a wider word that was there before is none.
        Edge.does("form behind a shrink", "3:1 1 2", (x, s) -> x.form(s, 1, 3) + (x.shrink(s) ? x.form(s, 1, 3) : 9), 3,
            "2:1 1");
    }

    /** With 1 strand TURN is NONE, and no word has letters: k is 0, and there is no S1. */
    private static void formWithOneStrand() {
        formIs("1:", "0");
        formAt("1:", 1, 1, 0);
        formAt("1:", -1, 1, 0);
        formAt("1:", 1, 0, 0);
    }

    /** With 2 strands each simple braid is TURN or NONE, and the row stays empty. */
    private static void formWithTwoStrands() {
        formIs("2:1", "1");
        formIs("2:-1", "-1");
        formIs("2:1 -1", "0");
        formIs("2:-1 -1 1", "-1");
        formIs(Words.row(2, 32, 1), "32");
        formIs(Words.row(2, 32, -1), "-32");
        formIs(Words.row(2, 31, 1, -1), "1");
        formAt("2:1", 1, 1, 0);
    }

    /** Terms: "S1, .., Sm, none of them TURN or NONE": a braid in which nothing crosses has none. */
    private static void formOfNoLetters() {
        for (int n = 1; n <= 8; n++) {
            formIs(n + ":", "0");
            formAt(n + ":", 1, 1, 0);
        }
        formIs("8:7 -7", "0");
        formIs("3:1 2 1 -2 -1 -2", "0");
        formIs(Words.row(8, 32, 1, -1), "0");
    }

    /** Terms: "S1, .., Sm, none of them TURN or NONE": TURNs are in k. */
    private static void formOfTurns() {
        formIs("3:1 2 1", "1");
        formIs("3:-1 -2 -1", "-1");
        formIs(Words.row(3, 30, 1, 2), "10");
        formIs(Words.row(3, 30, -1, -2), "-10");
        formIs(Words.row(3, 32, 1, 2), "10 312");
        formIs(TURN_8, "1");
        formIs(TURN_8_OTHERWISE, "1");
        formIs(TURN_8_BACK, "-1");
        formIs(TURN_8 + " 7 -7 7 -7", "1");
        formIs(TURN_8 + " 1", "1 21345678");
        formIs(TURN_8_BACK + " 1", "-1 21345678");
        formIs("8:1 " + TURN_8.substring("8:".length()), "1 12345687");
        formIs(TURN_8 + " -1", "0 87654312");
        formIs("8:-1 " + TURN_8.substring("8:".length()), "0 78654321");
    }

    /** Promise 15: "of Sj what p becomes; 0 when there is no such .. Sj", when there are the most of them. */
    private static void formOf32Letters() {
        for (int p = 1; p <= 8; p++) {
            formAt(Words.row(8, 32, 1), 1, p, p < 3 ? 3 - p : p);
            formAt(Words.row(8, 32, 1), 32, p, p < 3 ? 3 - p : p);
            formAt(Words.row(8, 32, 1), 33, p, 0);
            formAt(Words.row(8, 32, -1), 31, p, p < 3 ? 6 + p : 9 - p);
            formAt(Words.row(8, 32, -1), 32, p, p > 6 ? p - 6 : 9 - p);
            formAt(Words.row(8, 32, -1), 33, p, 0);
        }
        formAt(Words.row(8, 32, 1), 0, 0, 0);
        formAt(Words.row(8, 32, -1), 0, 0, -32);
    }

    /** A call that does nothing leaves the normal form as it was. */
    private static void formBehindARefusedCall() {
        String word = "3:1 -2";
        Edge.Call[] refused = {(x, s) -> x.letter(s, 3), (x, s) -> x.strands(s, 9), (x, s) -> x.grow(s, 0),
            (x, s) -> x.exchange(s, 0), (x, s) -> x.pass(s, 0), (x, s) -> x.copy(s, 4, true),
            (x, s) -> x.copy(4, s, true), (x, s) -> x.reduce(s, true), (x, s) -> x.same(s, 4)};
        for (Edge.Call call : refused) {
            for (int s = 0; s < 4; s++) {
                BraidWords x = new BraidWords();
                Words.put(x, s, word);
                Words.normalForm(x, s);
                call.on(x, s);
                Due.equal("form behind a refused call", Words.normalForm(x, s), "-1 132 231");
            }
        }
    }

    /** The form is that of the word there is now, though the one before had as many strands and letters. */
    private static void formBehindAChange() {
        formThen("3:1", (x, s) -> x.copy(s, s, true), "-1 312");
        formThen("3:1 2", (x, s) -> x.round(s, true), "0 231");
        formThen("3:1 1 2", (x, s) -> x.round(s, false), "1");
        formThen("3:1 2 1", (x, s) -> x.copy(s, s, true), "-1");
        formThen("3:1 2 1 2", (x, s) -> x.strands(s, 3) && x.letter(s, 1) == 1, "0 213");
        formThen("3:1 2 1 2", (x, s) -> x.strands(s, 3), "0");
        formThen(Words.row(2, 32, 1), (x, s) -> x.copy(s, s, true), "-32");
        formThen(Words.row(2, 31, 1), (x, s) -> x.letter(s, -1) == 32, "30");
        formThen("2:1", (x, s) -> x.grow(s, 1), "0 312");
        formThen("3:1 2", (x, s) -> x.shrink(s), "1");
        formThen("2:1 -1 1", (x, s) -> x.reduce(s, true) == 2, "1");
    }

    private static void formThen(String word, Edge.Call change, String want) {
        for (int s = 0; s < 4; s++) {
            BraidWords x = new BraidWords();
            Words.put(x, s, word);
            Words.normalForm(x, s);
            String what = "form of " + word + " in slot " + s + ", when it has changed";
            Due.equal(what, String.valueOf(change.on(x, s)), "true");
            Due.equal(what, Words.normalForm(x, s), want);
        }
    }

    private static void lengthIs(String word, int want) {
        Edge.answers("length", word, (x, s) -> x.length(s), want);
    }

    /** Promise 16: "How many simple braids the normal form has": TURNs in k are not among them. */
    private static void lengthOfTheLeast() {
        for (int n = 1; n <= 8; n++) {
            lengthIs(n + ":", 0);
        }
        lengthIs("2:1", 0);
        lengthIs(Words.row(2, 32, -1), 0);
        lengthIs(Words.row(3, 30, 1, 2), 0);
        lengthIs(TURN_8, 0);
        lengthIs(TURN_8_BACK, 0);
        lengthIs("3:1", 1);
        lengthIs("3:-1", 1);
        lengthIs("8:1 3 5 7", 1);
    }

    /** Promise 16: "How many simple braids the normal form has": never more than letters. */
    private static void lengthOfTheMost() {
        for (int n = 3; n <= 8; n++) {
            lengthIs(Words.row(n, 32, 1), 32);
            lengthIs(Words.row(n, 32, 1 - n), 32);
            lengthIs(Words.row(n, 31, n - 1), 31);
            lengthIs(Words.row(n, 32, 1, -2), 32);
        }
    }

    private static void crossingIs(String word, int k, String want) {
        Edge.answers("crossing " + k, word, (x, s) -> Words.labels(x, s, k), want);
    }

    /** Terms: "where a strand ends, its label is that of the strand that begins there": above and below one letter. */
    private static void crossingOfOneLetter() {
        for (int n = 2; n <= 8; n++) {
            int m = n - 1;
            crossingIs(n + ":1", 0, "1 1 2 2 1");
            crossingIs(n + ":-1", 0, "2 1 1 2 -1");
            crossingIs(n + ":" + m, 0, m + " " + m + " " + n + " " + n + " 1");
            crossingIs(n + ":" + -m, 0, n + " " + m + " " + m + " " + n + " -1");
        }
    }

    /** Terms: "a letter's two strands get the next two labels below it, the left one first" */
    private static void crossingLabelsAreTheNextTwo() {
        crossingIs("2:1 1", 0, "1 3 4 2 1");
        crossingIs("2:1 1", 1, "3 1 2 4 1");
        crossingIs("2:-1 -1", 0, "2 1 3 4 -1");
        crossingIs("2:-1 -1", 1, "4 3 1 2 -1");
        crossingIs("3:1 2", 0, "1 1 5 2 1");
        crossingIs("3:1 2", 1, "5 2 3 3 1");
        crossingIs("8:1 7", 0, "1 1 2 2 1");
        crossingIs("8:1 7", 1, "7 7 8 8 1");
        crossingIs("8:1 7 1", 0, "1 9 10 2 1");
        crossingIs("8:1 7 1", 2, "9 1 2 10 1");
        crossingIs("8:1 -7 1 7", 3, "11 7 8 12 1");
    }

    /** Promise 17: "Of the closure's crossing k (from 0 on, as its letters come)", the first and the last. */
    private static void crossingOf32Letters() {
        crossingIs(Words.row(8, 32, 7), 0, "7 9 10 8 1");
        crossingIs(Words.row(8, 32, 7), 30, "67 69 70 68 1");
        crossingIs(Words.row(8, 32, 7), 31, "69 7 8 70 1");
        crossingIs(Words.row(8, 32, -7), 0, "8 7 9 10 -1");
        crossingIs(Words.row(8, 32, -7), 30, "68 67 69 70 -1");
        crossingIs(Words.row(8, 32, -7), 31, "70 69 7 8 -1");
        crossingIs(Words.row(2, 32, 1), 31, "63 1 2 64 1");
    }

    /** Promise 17: "Of the closure's crossing k (from 0 on ..)"; "0 when there is none." */
    private static void crossingNoSuchLetter() {
        for (int k : new int[] {-1, -2, 2, 3, 31, 32, 256, LEAST, MOST}) {
            crossingIs("3:1 -2", k, "0 0 0 0 0");
        }
        for (int k : new int[] {-1, 32, 33, LEAST, MOST}) {
            crossingIs(Words.row(8, 32, 7), k, "0 0 0 0 0");
        }
        Edge.does("crossing of a letter that went", "3:1 2 -2", (x, s) -> x.reduce(s, false) + x.crossing(s, 1, 0)
            + x.crossing(s, 2, 4), 2, "3:1");
    }

    /** Promise 17: "what 0 to 3 its labels, 4 its sign; 0 when there is none." */
    private static void crossingNoSuchThing() {
        for (int what : new int[] {-1, -4, 5, 6, 256, LEAST, MOST}) {
            Edge.answers("crossing, what " + what, "3:1 -2", (x, s) -> x.crossing(s, 0, what), 0);
            Edge.answers("crossing, what " + what, "3:1 -2", (x, s) -> x.crossing(s, 1, what), 0);
            Edge.answers("crossing, what " + what, "3:1 -2", (x, s) -> x.crossing(s, 2, what), 0);
        }
    }

    /** A strand without a letter has a label, and no crossing. */
    private static void crossingOfNoLetters() {
        for (int n = 1; n <= 8; n++) {
            for (int k = -1; k <= 1; k++) {
                crossingIs(n + ":", k, "0 0 0 0 0");
            }
        }
    }
}
