/** The edges of promises 1 to 7: a new object, strands, letter, copy, many, at, end. */
public final class EdgeWordTest {
    private static final int LEAST = Words.LEAST;
    private static final int MOST = Words.MOST;
    private static final String FULL = Words.row(8, 32, 1, -7, 3, 5);
    private static final String ALL_BUT_FULL = Words.row(8, 31, 1, -7, 3, 5);

    public static void main(String[] args) {
        newSlotsHaveOneStrand();
        newSlotsHaveNoLetters();
        newObjectsAreApart();
        strandsFrom1To8();
        strandsTakeTheLetters();
        strandsOfNoSuchNumber();
        letterFrom1ToOneBelowN();
        letterOfNoSuchValue();
        letterWithOneStrand();
        letter32();
        letter33();
        copyOfNoLetters();
        copyOf32Letters();
        copyBackOfFewLetters();
        copyOntoItself();
        copyLeavesTheOther();
        manyOfNoLetters();
        manySignsAtMost();
        manyComponentsAndCircles();
        manyOfNoSuchThing();
        atTheFirstAndTheLast();
        atNoSuchLetter();
        atLettersThatWent();
        endOfEachPlace();
        endOfNoSuchPlace();
        endWithOneStrand();
        theLastCallsOf512();
        Due.finish();
    }

    /** Promise 1: "Four slots with one strand"; Terms: "(at first 1)" */
    private static void newSlotsHaveOneStrand() {
        for (int s = 0; s < 4; s++) {
            BraidWords x = new BraidWords();
            Due.equal("new: strands of " + s, x.many(s, 0), 1);
            Due.equal("new: components of " + s, x.many(s, 3), 1);
            Due.equal("new: circles of " + s, x.many(s, 4), 1);
            Due.equal("new: end of place 1 of " + s, x.end(s, 1), 1);
            Due.equal("new: end of place 2 of " + s, x.end(s, 2), 0);
            Due.equal("new: letter 1 of " + s, x.letter(s, 1), -1);
        }
    }

    /** Promise 1: "and no letters." */
    private static void newSlotsHaveNoLetters() {
        for (int s = 0; s < 4; s++) {
            BraidWords x = new BraidWords();
            Due.equal("new: letters of " + s, x.many(s, 1), 0);
            Due.equal("new: signs of " + s, x.many(s, 2), 0);
            Due.equal("new: letter 0 of " + s, x.at(s, 0), 0);
            Due.equal("new: round of " + s, x.round(s, false), false);
            Due.equal("new: shrink of " + s, x.shrink(s), false);
            Due.equal("new: reduce of " + s, x.reduce(s, true), 0);
            Due.equal("new: crossing of " + s, x.crossing(s, 0, 4), 0);
            Due.equal("new: k of " + s, x.form(s, 0, 0), 0);
            Due.equal("new: length of " + s, x.length(s), 0);
        }
    }

    /** Promise 1: "Four slots with one strand and no letters", whatever other objects hold. */
    private static void newObjectsAreApart() {
        BraidWords x = new BraidWords();
        BraidWords y = new BraidWords();
        for (int s = 0; s < 4; s++) {
            Words.put(x, s, FULL);
        }
        for (int s = 0; s < 4; s++) {
            Due.equal("an object made before, slot " + s, Words.word(y, s), "1:");
            Due.equal("an object made behind, slot " + s, Words.word(new BraidWords(), s), "1:");
        }
    }

    /** Promise 2: "A slot has n strands .. : true"; 1 and 8 are such numbers. */
    private static void strandsFrom1To8() {
        for (int n = 1; n <= 8; n++) {
            int strands = n;
            Edge.does("strands " + n, "1:", (x, s) -> x.strands(s, strands), true, n + ":");
            Edge.does("strands " + n, "8:", (x, s) -> x.strands(s, strands), true, n + ":");
        }
    }

    /** Promise 2: "and no letters"; with as many strands as before, too. */
    private static void strandsTakeTheLetters() {
        for (int n = 1; n <= 8; n++) {
            int strands = n;
            Edge.does("strands " + n, FULL, (x, s) -> x.strands(s, strands), true, n + ":");
        }
        Edge.does("strands 3", "3:1 -2", (x, s) -> x.strands(s, 3), true, "3:");
        Edge.does("strands and a letter", "3:1 -2", (x, s) -> x.strands(s, 3) ? x.letter(s, 2) : 0, 1, "3:2");
    }

    /** Promise 2: "false when .. n is not 1 .. 8." */
    private static void strandsOfNoSuchNumber() {
        for (int n : new int[] {0, -1, -8, 9, 10, 257, LEAST, LEAST + 1, MOST}) {
            for (String word : new String[] {"1:", "3:1 -2", "8:", FULL}) {
                Edge.answers("strands " + n, word, (x, s) -> x.strands(s, n), false);
            }
        }
    }

    /** Promise 3: "A letter behind the others: how many there are."; Terms: "i being 1 .. N - 1" */
    private static void letterFrom1ToOneBelowN() {
        for (int n = 2; n <= 8; n++) {
            for (int l : new int[] {1, -1, n - 1, 1 - n}) {
                Edge.does("letter " + l, n + ":", (x, s) -> x.letter(s, l), 1, n + ":" + l);
                Edge.does("letter " + l, n + ":1 -1", (x, s) -> x.letter(s, l), 3, n + ":1 -1 " + l);
            }
        }
    }

    /** Promise 3: "-1, doing nothing, when there is no such .. letter" */
    private static void letterOfNoSuchValue() {
        for (int n = 1; n <= 8; n++) {
            for (int l : new int[] {0, n, -n, n + 1, -n - 1, 256 + n - 1, LEAST, LEAST + 1, MOST}) {
                Edge.answers("letter " + l, n + ":", (x, s) -> x.letter(s, l), -1);
            }
        }
        for (int l : new int[] {0, 8, -8, LEAST, MOST}) {
            Edge.answers("letter " + l, ALL_BUT_FULL, (x, s) -> x.letter(s, l), -1);
            Edge.answers("letter " + l, FULL, (x, s) -> x.letter(s, l), -1);
        }
    }

    /** With 1 strand, i would be 1 .. 0: there is no letter at all. */
    private static void letterWithOneStrand() {
        for (int l = -8; l <= 8; l++) {
            int letter = l;
            Edge.answers("letter " + l, "1:", (x, s) -> x.letter(s, letter), -1);
        }
    }

    /** Terms: "a row of up to 32 LETTERS" */
    private static void letter32() {
        Edge.does("letter 32", ALL_BUT_FULL, (x, s) -> x.letter(s, 5), 32, FULL);
        Edge.does("letter 32", Words.row(2, 31, -1), (x, s) -> x.letter(s, -1), 32, Words.row(2, 32, -1));
        for (int many = 0; many < 32; many++) {
            String behind = Words.row(3, many + 1, 2);
            Edge.does("a letter more", Words.row(3, many, 2), (x, s) -> x.letter(s, 2), many + 1, behind);
        }
    }

    /** Promise 3: "-1, doing nothing, when .. there are 32." */
    private static void letter33() {
        for (int l : new int[] {1, -1, 7, -7}) {
            Edge.answers("letter 33", FULL, (x, s) -> x.letter(s, l), -1);
        }
        Edge.answers("letter 33, which could go", Words.row(2, 32, 1), (x, s) -> x.letter(s, -1), -1);
        Edge.answers("letter 33, twice", FULL, (x, s) -> x.letter(s, 1) + x.letter(s, 2), -2);
    }

    /** Promise 4: "Slot r gets what slot s has": the strands, too, and no letters where there are none. */
    private static void copyOfNoLetters() {
        for (String from : new String[] {"1:", "8:"}) {
            for (String onto : new String[] {"1:", "8:", "3:1 2", FULL}) {
                copyOver(from, onto, false);
                copyOver(from, onto, true);
            }
        }
    }

    private static void copyOver(String from, String onto, boolean back) {
        BraidWords x = new BraidWords();
        Words.put(x, 3, from);
        Words.put(x, 0, onto);
        String what = "copy of " + from + " over " + onto + ", back " + back;
        Due.equal(what, x.copy(0, 3, back), true);
        Due.equal(what, Words.word(x, 0), from);
        Due.equal(what + ", the copied one", Words.word(x, 3), from);
    }

    /** Promise 4: "Slot r gets what slot s has (back false), or the word of its inverse", with 32 letters. */
    private static void copyOf32Letters() {
        BraidWords x = new BraidWords();
        Words.put(x, 3, Words.row(8, 32, 1, 2, -7));
        Due.equal("copy of 32 letters", x.copy(0, 3, false), true);
        Due.equal("copy of 32 letters", Words.word(x, 0), Words.row(8, 32, 1, 2, -7));
        Due.equal("inverse of 32 letters", x.copy(1, 3, true), true);
        Due.equal("inverse of 32 letters", Words.word(x, 1), Words.row(8, 32, -2, -1, 7));
        Due.equal("32 letters copied", Words.word(x, 3), Words.row(8, 32, 1, 2, -7));
        Due.equal("another slot", Words.word(x, 2), "1:");
    }

    /** Promise 4: "its letters from the last to the first with the other sign" */
    private static void copyBackOfFewLetters() {
        String[][] inverses = {{"2:", "2:"}, {"2:1", "2:-1"}, {"8:-7", "8:7"}, {"3:1 2", "3:-2 -1"},
            {"3:-1 1", "3:-1 1"}, {"4:1 -2 3", "4:-3 2 -1"}};
        for (String[] pair : inverses) {
            BraidWords x = new BraidWords();
            Words.put(x, 2, pair[0]);
            Words.put(x, 1, FULL);
            Due.equal("copy back of " + pair[0], x.copy(1, 2, true), true);
            Due.equal("copy back of " + pair[0], Words.word(x, 1), pair[1]);
            Due.equal("copied back: " + pair[0], Words.word(x, 2), pair[0]);
        }
    }

    /** Promise 4, when r is s. */
    private static void copyOntoItself() {
        for (String word : new String[] {"1:", "8:", "2:1", "3:1 -2", "4:1 2 -3", FULL}) {
            Edge.answers("copy onto itself", word, (x, s) -> x.copy(s, s, false), true);
        }
        Edge.does("inverse onto itself", "1:", (x, s) -> x.copy(s, s, true), true, "1:");
        Edge.does("inverse onto itself", "8:", (x, s) -> x.copy(s, s, true), true, "8:");
        Edge.does("inverse onto itself", "2:1", (x, s) -> x.copy(s, s, true), true, "2:-1");
        Edge.does("inverse onto itself", "3:1 -2", (x, s) -> x.copy(s, s, true), true, "3:2 -1");
        Edge.does("inverse onto itself", "4:1 2 -3", (x, s) -> x.copy(s, s, true), true, "4:3 -2 -1");
        Edge.does("inverse onto itself", FULL, (x, s) -> x.copy(s, s, true), true, Words.row(8, 32, -5, -3, 7, -1));
    }

    /** A copy is the other slot's own from then on. */
    private static void copyLeavesTheOther() {
        BraidWords x = new BraidWords();
        Words.put(x, 0, "3:1 -2");
        x.copy(1, 0, false);
        x.letter(0, 1);
        Due.equal("the copy, when the copied one gets a letter", Words.word(x, 1), "3:1 -2");
        x.round(1, false);
        x.grow(1, 1);
        Due.equal("the copied one, when the copy is changed", Words.word(x, 0), "3:1 -2 1");
    }

    /** Promise 5, with no letters. */
    private static void manyOfNoLetters() {
        for (int n = 1; n <= 8; n++) {
            int[] want = {n, 0, 0, n, n};
            for (int what = 0; what <= 4; what++) {
                int asked = what;
                Edge.answers("many " + what, n + ":", (x, s) -> x.many(s, asked), want[what]);
            }
        }
    }

    /** Promise 5: "the sum of signs", not of letters, with 32 of them. */
    private static void manySignsAtMost() {
        Edge.answers("32 signs", Words.row(8, 32, 7), (x, s) -> x.many(s, 2), 32);
        Edge.answers("32 signs below 0", Words.row(8, 32, -7), (x, s) -> x.many(s, 2), -32);
        Edge.answers("as many above as below", Words.row(8, 32, 7, -1), (x, s) -> x.many(s, 2), 0);
        Edge.answers("one sign below 0", "8:-7", (x, s) -> x.many(s, 2), -1);
        Edge.answers("32 letters", FULL, (x, s) -> x.many(s, 1), 32);
    }

    /** Promise 5: "components of the closure (circles, too)"; Terms: "Strands without a crossing are CIRCLES." */
    private static void manyComponentsAndCircles() {
        Object[][] rows = {{"2:1", 1, 0}, {"2:1 1", 2, 0}, {"2:1 -1", 2, 0}, {"8:1", 7, 6}, {"8:7", 7, 6},
            {"8:-4", 7, 6}, {"8:1 7", 6, 4}, {"8:1 3 5 7", 4, 0}, {"8:1 2 3 4 5 6 7", 1, 0},
            {"8:-7 -6 -5 -4 -3 -2 -1", 1, 0}, {"8:2 3 4 5 6", 3, 2}, {"3:1 1", 3, 1}, {"3:2 2", 3, 1},
            {Words.row(8, 32, 4), 8, 6}, {Words.row(8, 31, 4), 7, 6}};
        for (Object[] row : rows) {
            Edge.answers("components", (String) row[0], (x, s) -> x.many(s, 3), row[1]);
            Edge.answers("circles", (String) row[0], (x, s) -> x.many(s, 4), row[2]);
        }
    }

    /** Promise 5: "-1000 for others." */
    private static void manyOfNoSuchThing() {
        for (int what : new int[] {-1, 5, 6, -5, 256, LEAST, MOST}) {
            for (String word : new String[] {"1:", "3:1 -2", "8:", FULL}) {
                Edge.answers("many " + what, word, (x, s) -> x.many(s, what), -1000);
            }
        }
    }

    /** Promise 6: "Letter k (from 0 on)" */
    private static void atTheFirstAndTheLast() {
        Edge.answers("at 0", "2:-1", (x, s) -> x.at(s, 0), -1);
        Edge.answers("at 0", "8:7 -1 1", (x, s) -> x.at(s, 0), 7);
        Edge.answers("at 2", "8:1 -1 -7", (x, s) -> x.at(s, 2), -7);
        Edge.answers("at 0", FULL, (x, s) -> x.at(s, 0), 1);
        Edge.answers("at 31", FULL, (x, s) -> x.at(s, 31), 5);
    }

    /** Promise 6: "0 when there is none." */
    private static void atNoSuchLetter() {
        for (int k : new int[] {-1, -2, 3, 4, 31, 32, 33, 256, LEAST, MOST}) {
            Edge.answers("at " + k, "8:7 -1 1", (x, s) -> x.at(s, k), 0);
        }
        for (int k : new int[] {-1, 32, 33, 64, LEAST, MOST}) {
            Edge.answers("at " + k, FULL, (x, s) -> x.at(s, k), 0);
        }
        for (int k : new int[] {-1, 0, 1, 31, 32}) {
            Edge.answers("at " + k, "1:", (x, s) -> x.at(s, k), 0);
            Edge.answers("at " + k, "8:", (x, s) -> x.at(s, k), 0);
        }
    }

    /** A letter that went is none, wherever it was held. */
    private static void atLettersThatWent() {
        Edge.does("at, taken by strands", FULL, (x, s) -> x.strands(s, 8) ? x.at(s, 0) : -1, 0, "8:");
        Edge.does("at, reduced", "3:1 2 -2", (x, s) -> x.reduce(s, false) + x.at(s, 1) + x.at(s, 2), 2, "3:1");
        Edge.does("at, ends reduced", "3:1 2 -1", (x, s) -> x.reduce(s, true) + x.at(s, 1) + x.at(s, 2), 2, "3:2");
        Edge.does("at, shrunk", "3:1 2", (x, s) -> x.shrink(s) ? x.at(s, 1) : -1, 0, "2:1");
    }

    /** Promise 7: "Where the strand ends that begins at place p" */
    private static void endOfEachPlace() {
        int[] shifted = {8, 1, 2, 3, 4, 5, 6, 7};
        for (int p = 1; p <= 8; p++) {
            int place = p;
            Edge.answers("end " + p, "8:", (x, s) -> x.end(s, place), p);
            Edge.answers("end " + p, "8:1 2 -3 4 -5 6 7", (x, s) -> x.end(s, place), shifted[p - 1]);
            Edge.answers("end " + p, Words.row(8, 32, 7), (x, s) -> x.end(s, place), p);
            Edge.answers("end " + p, Words.row(8, 31, 7), (x, s) -> x.end(s, place), p < 7 ? p : 15 - p);
        }
        Edge.answers("end 1", "2:1", (x, s) -> x.end(s, 1), 2);
        Edge.answers("end 2", "2:-1", (x, s) -> x.end(s, 2), 1);
    }

    /** Promise 7: "0 when there is none."; Terms: "PLACES 1 .. N" */
    private static void endOfNoSuchPlace() {
        for (int n = 1; n <= 8; n++) {
            for (int p : new int[] {0, -1, n + 1, n + 2, 256 + n, LEAST, LEAST + n, MOST}) {
                Edge.answers("end " + p, n + ":", (x, s) -> x.end(s, p), 0);
            }
        }
        Edge.answers("end 0", "3:1 2", (x, s) -> x.end(s, 0), 0);
        Edge.answers("end 4", "3:1 2", (x, s) -> x.end(s, 4), 0);
        Edge.answers("end 9", Words.row(8, 32, 7), (x, s) -> x.end(s, 9), 0);
        Edge.does("end of a strand that went", "3:1 2", (x, s) -> x.shrink(s) ? x.end(s, 3) : -1, 0, "2:1");
    }

    /** Promise 7: "Where the strand ends that begins at place p", when there is only one. */
    private static void endWithOneStrand() {
        Edge.answers("end 1", "1:", (x, s) -> x.end(s, 1), 1);
        Edge.does("end of a strand that came", "1:", (x, s) -> x.grow(s, 1) ? x.end(s, 2) : -1, 1, "2:1");
    }

    /** "An object is used for at most 512 calls": the last ones answer like the first. */
    private static void theLastCallsOf512() {
        BraidWords x = new BraidWords();
        for (int call = 1; call <= 500; call += 2) {
            Due.equal("call " + call, x.grow(0, 1), true);
            Due.equal("call " + (call + 1), x.shrink(0), true);
        }
        Due.equal("call 501", x.strands(0, 3), true);
        Due.equal("call 502", x.letter(0, -2), 1);
        Due.equal("call 503", x.letter(0, 1), 2);
        Due.equal("call 504", x.copy(3, 0, true), true);
        Due.equal("call 505", x.round(0, false), true);
        Due.equal("call 506", x.at(0, 1), -2);
        Due.equal("call 507", x.same(0, 3), false);
        Due.equal("call 508", x.form(0, 0, 0), -1);
        Due.equal("call 509", x.length(0), 2);
        Due.equal("call 510", x.end(0, 1), 3);
        Due.equal("call 511", x.crossing(0, 1, 0), 3);
        Due.equal("call 512", x.many(3, 1), 2);
    }
}
