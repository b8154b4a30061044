/** Each promise by written answers: ordinary inputs, the edges that the document names, wrong inputs. */
public final class PromiseTest {
    private static final int LEAST = Words.LEAST;
    private static final int MOST = Words.MOST;
    private static final int[] NO_SLOTS = Words.NO_SLOTS;

    public static void main(String[] args) {
        newObject();
        strands();
        letter();
        copy();
        copyOntoItself();
        many();
        at();
        end();
        reduce();
        reduceEnds();
        round();
        exchange();
        pass();
        passSigns();
        grow();
        shrink();
        same();
        form();
        formFollowsTheWord();
        length();
        crossing();
        crossingOfOneLetter();
        slotsAreApart();
        Due.finish();
    }

    private static BraidWords with(int n, int... letters) {
        BraidWords x = new BraidWords();
        Words.put(x, 0, n, letters);
        return x;
    }

    private static BraidWords full(int n, int l) {
        BraidWords x = with(n);
        for (int k = 0; k < 32; k++) {
            x.letter(0, l);
        }
        return x;
    }

    private static void wordIs(String what, BraidWords x, String want) {
        Due.equal(what, Words.word(x, 0), want);
    }

    private static void newObject() {
        BraidWords x = new BraidWords();
        for (int s = 0; s < 4; s++) {
            Due.equal("new: word of " + s, Words.word(x, s), "1:");
            Due.equal("new: circles of " + s, x.many(s, 4), 1);
            Due.equal("new: components of " + s, x.many(s, 3), 1);
            Due.equal("new: form of " + s, Words.normalForm(x, s), "0");
            Due.equal("new: end of " + s, x.end(s, 1), 1);
            Due.equal("new: same as 0 " + s, x.same(0, s), true);
        }
    }

    private static void strands() {
        BraidWords x = new BraidWords();
        for (int n = 1; n <= 8; n++) {
            Due.equal("strands(3, n)", x.strands(3, n), true);
            Due.equal("many after strands", x.many(3, 0), n);
        }
        for (int n : new int[] {0, -1, 9, LEAST, MOST}) {
            Due.equal("strands(3, " + n + ")", x.strands(3, n), false);
            Due.equal("many after a wrong number", x.many(3, 0), 8);
        }
        for (int s : NO_SLOTS) {
            Due.equal("strands(" + s + ", 2)", x.strands(s, 2), false);
        }
        x = with(3, 1, 2);
        Due.equal("strands(0, 0)", x.strands(0, 0), false);
        wordIs("wrong strands keep the word", x, "3:1 2");
        Due.equal("strands(0, 3)", x.strands(0, 3), true);
        wordIs("strands take the letters", x, "3:");
    }

    private static void letter() {
        BraidWords x = with(3);
        Due.equal("letter 1", x.letter(0, 1), 1);
        Due.equal("letter -2", x.letter(0, -2), 2);
        for (int l : new int[] {0, 3, -3, LEAST, MOST, -MOST}) {
            Due.equal("letter(0, " + l + ")", x.letter(0, l), -1);
        }
        wordIs("letters", x, "3:1 -2");
        for (int s : NO_SLOTS) {
            Due.equal("letter(" + s + ", 1)", x.letter(s, 1), -1);
        }
        Due.equal("no letter with 1 strand", x.letter(1, 1), -1);
        x = with(8);
        for (int k = 1; k <= 32; k++) {
            Due.equal("letter " + k, x.letter(0, k % 2 == 0 ? 7 : -7), k);
        }
        Due.equal("letter 33", x.letter(0, 1), -1);
        Due.equal("letters stay 32", x.many(0, 1), 32);
        Due.equal("the last letter stays", x.at(0, 31), 7);
    }

    private static void copy() {
        BraidWords x = with(4, 1, -2, 3);
        Words.put(x, 1, 2, 1, 1, 1, 1, 1);
        Due.equal("copy(1, 0, false)", x.copy(1, 0, false), true);
        Due.equal("copied", Words.word(x, 1), "4:1 -2 3");
        Due.equal("copy(2, 0, true)", x.copy(2, 0, true), true);
        Due.equal("inverse", Words.word(x, 2), "4:-3 2 -1");
        wordIs("the copied one stays", x, "4:1 -2 3");
        for (int s : NO_SLOTS) {
            Due.equal("copy from none", x.copy(0, s, false), false);
            Due.equal("copy to none", x.copy(s, 0, true), false);
        }
        wordIs("a wrong copy does nothing", x, "4:1 -2 3");
        x.letter(1, 1);
        wordIs("a copy is apart", x, "4:1 -2 3");
        Due.equal("copy of no letters", x.copy(0, 3, true), true);
        wordIs("no letters", x, "1:");
    }

    private static void copyOntoItself() {
        BraidWords x = with(4, 1, -2, 3);
        Due.equal("copy(0, 0, false)", x.copy(0, 0, false), true);
        wordIs("itself", x, "4:1 -2 3");
        Due.equal("copy(0, 0, true)", x.copy(0, 0, true), true);
        wordIs("its own inverse, odd", x, "4:-3 2 -1");
        x.letter(0, 1);
        x.copy(0, 0, true);
        wordIs("its own inverse, even", x, "4:-1 1 -2 3");
    }

    private static void many() {
        BraidWords x = with(5, 1, 1, -2, -2, -2);
        int[] want = {5, 5, -1, 4, 2};
        for (int what = 0; what <= 4; what++) {
            Due.equal("many(0, " + what + ")", x.many(0, what), want[what]);
        }
        for (int what : new int[] {-1, 5, LEAST, MOST}) {
            Due.equal("many(0, " + what + ")", x.many(0, what), -1000);
        }
        for (int s : NO_SLOTS) {
            for (int what = -1; what <= 5; what++) {
                Due.equal("many(" + s + ", " + what + ")", x.many(s, what), -1000);
            }
        }
        x = with(8);
        Due.equal("components without letters", x.many(0, 3), 8);
        Due.equal("circles without letters", x.many(0, 4), 8);
        x = with(8, 1, 2, 3, 4, 5, 6, 7);
        Due.equal("one component", x.many(0, 3), 1);
        Due.equal("no circles", x.many(0, 4), 0);
        x = with(4, 2, -2);
        Due.equal("crossed strands are components, not circles", x.many(0, 3), 4);
        Due.equal("circles at both sides", x.many(0, 4), 2);
        Due.equal("32 signs below", full(2, -1).many(0, 2), -32);
        Due.equal("32 signs above", full(8, 7).many(0, 2), 32);
    }

    private static void at() {
        BraidWords x = with(3, 2, -1);
        Due.equal("at 0", x.at(0, 0), 2);
        Due.equal("at 1", x.at(0, 1), -1);
        for (int k : new int[] {-1, 2, 31, 32, LEAST, MOST}) {
            Due.equal("at " + k, x.at(0, k), 0);
        }
        for (int s : NO_SLOTS) {
            Due.equal("at of no slot", x.at(s, 0), 0);
        }
        x.reduce(0, false);
        x.strands(0, 3);
        Due.equal("at, letters gone", x.at(0, 0), 0);
        Due.equal("at 31", full(3, -2).at(0, 31), -2);
        Due.equal("at 32", full(3, -2).at(0, 32), 0);
    }

    private static void end() {
        BraidWords x = with(4, 1, -2, 3);
        int[] want = {4, 1, 2, 3};
        for (int p = 1; p <= 4; p++) {
            Due.equal("end " + p, x.end(0, p), want[p - 1]);
        }
        for (int p : new int[] {0, -1, 5, LEAST, MOST}) {
            Due.equal("end " + p, x.end(0, p), 0);
        }
        for (int s : NO_SLOTS) {
            Due.equal("end of no slot", x.end(s, 1), 0);
        }
        Due.equal("end of no letters", x.end(1, 1), 1);
        Due.equal("end of no strand", x.end(1, 2), 0);
    }

    private static void reduce() {
        BraidWords x = with(4, 1, 2, -2, 3, -3, -1, 2);
        Due.equal("reduce nested", x.reduce(0, false), 6);
        wordIs("reduced", x, "4:2");
        Due.equal("reduce again", x.reduce(0, false), 0);
        x = with(4, -3, 3, 3, -1, 1, 1);
        Due.equal("reduce beside more", x.reduce(0, false), 4);
        wordIs("reduced beside more", x, "4:3 1");
        x = with(4, 1, 3, -1);
        Due.equal("ends are not looked at", x.reduce(0, false), 0);
        wordIs("not reduced", x, "4:1 3 -1");
        x = with(3, 1, 1, 2, 2);
        Due.equal("like letters stay", x.reduce(0, true), 0);
        Due.equal("reduce no letters", x.reduce(1, false), 0);
        for (int s : NO_SLOTS) {
            Due.equal("reduce no slot", x.reduce(s, true), 0);
        }
    }

    private static void reduceEnds() {
        BraidWords x = with(4, 1, -2, 3, 2, -1);
        Due.equal("reduce ends", x.reduce(0, true), 4);
        wordIs("ends gone", x, "4:3");
        Due.equal("one letter is not its own neighbour", x.reduce(0, true), 0);
        wordIs("one letter stays", x, "4:3");
        x = with(3, 1, -1);
        Due.equal("two letters", x.reduce(0, true), 2);
        wordIs("none left", x, "3:");
        Due.equal("no letters", x.reduce(0, true), 0);
        x = with(3, 1, -1, 2, 1, -1, -2, -1, -2);
        Due.equal("all but the ends' go", x.reduce(0, true), 6);
        wordIs("left in order", x, "3:-1 -2");
        x = with(3, 1, 2, -1, 1, -1);
        Due.equal("elsewhere first", x.reduce(0, true), 4);
        wordIs("elsewhere first", x, "3:2");
        x = with(4, 1, 2, 3, -1, 1, 1, -1, -1);
        Due.equal("elsewhere before the ends", x.reduce(0, true), 6);
        wordIs("elsewhere before the ends", x, "4:2 3");
        x = with(4, 1, -1, 1, 2, -1, -3);
        Due.equal("the ends are none", x.reduce(0, true), 2);
        wordIs("the ends are none", x, "4:1 2 -1 -3");
        // In these two, taking the ends first would leave the same letters in the other order.
        x = with(3, 1, 2, 1, -1);
        Due.equal("the last pair goes, not the ends", x.reduce(0, true), 2);
        wordIs("the last pair goes, not the ends", x, "3:1 2");
        x = with(3, -1, 1, 2, 1);
        Due.equal("the first pair goes, not the ends", x.reduce(0, true), 2);
        wordIs("the first pair goes, not the ends", x, "3:2 1");
        x = with(2);
        for (int k = 0; k < 32; k++) {
            x.letter(0, k < 16 ? 1 : -1);
        }
        Due.equal("32 letters go", x.reduce(0, true), 32);
    }

    private static void round() {
        BraidWords x = with(4, 1, 2, -3);
        Due.equal("round", x.round(0, false), true);
        wordIs("round", x, "4:2 -3 1");
        Due.equal("round back", x.round(0, true), true);
        Due.equal("round back", x.round(0, true), true);
        wordIs("round back", x, "4:-3 1 2");
        Due.equal("round no letter", x.round(1, false), false);
        Due.equal("round no letter back", x.round(1, true), false);
        for (int s : NO_SLOTS) {
            Due.equal("round no slot", x.round(s, false), false);
            Due.equal("round no slot back", x.round(s, true), false);
        }
        x = with(2, -1);
        Due.equal("round one", x.round(0, false), true);
        Due.equal("round one back", x.round(0, true), true);
        wordIs("round one", x, "2:-1");
        x = full(3, 1);
        x.copy(1, 0, false);
        Due.equal("round 32", x.round(0, false), true);
        Due.equal("round 32 back", x.round(0, true), true);
        Due.equal("letters stay 32", Words.word(x, 0), Words.word(x, 1));
    }

    private static void exchange() {
        BraidWords x = with(5, 1, -3, 4, -1, 1, 2, 2);
        Due.equal("exchange 0", x.exchange(0, 0), true);
        wordIs("exchanged", x, "5:-3 1 4 -1 1 2 2");
        Due.equal("exchange 1", x.exchange(0, 1), true);
        wordIs("exchanged", x, "5:-3 4 1 -1 1 2 2");
        Due.equal("exchange neighbours", x.exchange(0, 0), false);
        Due.equal("exchange i, -i", x.exchange(0, 2), false);
        Due.equal("exchange 1, 2", x.exchange(0, 4), false);
        Due.equal("exchange like ones", x.exchange(0, 5), false);
        for (int k : new int[] {-1, 6, 7, 31, LEAST, MOST}) {
            Due.equal("exchange " + k, x.exchange(0, k), false);
        }
        for (int s : NO_SLOTS) {
            Due.equal("exchange no slot", x.exchange(s, 0), false);
        }
        Due.equal("exchange no letters", x.exchange(1, 0), false);
        wordIs("wrong ones do nothing", x, "5:-3 4 1 -1 1 2 2");
        x = with(4, 1, -2);
        Due.equal("signs do not make values differ", x.exchange(0, 0), false);
    }

    private static void pass() {
        BraidWords x = with(4, 1, 2, 1, 3, 2, 3, 3);
        Due.equal("pass 0", x.pass(0, 0), true);
        wordIs("passed", x, "4:2 1 2 3 2 3 3");
        Due.equal("pass 3", x.pass(0, 3), true);
        wordIs("passed down", x, "4:2 1 2 2 3 2 3");
        for (int k : new int[] {-1, 1, 2, 5, 6, 7, LEAST, MOST, MOST - 1}) {
            Due.equal("pass " + k, x.pass(0, k), false);
        }
        for (int s : NO_SLOTS) {
            Due.equal("pass no slot", x.pass(s, 0), false);
        }
        Due.equal("pass no letters", x.pass(1, 0), false);
        wordIs("wrong ones do nothing", x, "4:2 1 2 2 3 2 3");
        x = with(5, 1, 3, 1, 2, 2, 2, 3, 1);
        for (int k = 0; k < 8; k++) {
            Due.equal("pass other letters " + k, x.pass(0, k), false);
        }
        x = with(4, 1, 2, 3, 2, 1);
        Due.equal("pass with outer values apart", x.pass(0, 0), false);
    }

    private static void passSigns() {
        for (int a = -1; a <= 1; a += 2) {
            for (int b = -1; b <= 1; b += 2) {
                for (int c = -1; c <= 1; c += 2) {
                    for (int j = 2; j <= 4; j += 2) {
                        BraidWords x = with(5, a * 3, b * j, c * 3);
                        x.copy(1, 0, false);
                        boolean may = a != c || a == b;
                        String what = "pass " + Words.word(x, 0);
                        Due.equal(what, x.pass(0, 0), may);
                        String passed = "5:" + c * j + " " + b * 3 + " " + a * j;
                        wordIs(what, x, may ? passed : Words.word(x, 1));
                        Due.equal(what + " is one braid", x.same(0, 1), true);
                    }
                }
            }
        }
    }

    private static void grow() {
        BraidWords x = new BraidWords();
        Due.equal("grow from 1", x.grow(0, 1), true);
        wordIs("grown", x, "2:1");
        Due.equal("grow from 2", x.grow(0, -1), true);
        wordIs("grown", x, "3:1 -2");
        for (int sign : new int[] {0, 2, -2, LEAST, MOST}) {
            Due.equal("grow by sign " + sign, x.grow(0, sign), false);
        }
        for (int s : NO_SLOTS) {
            Due.equal("grow no slot", x.grow(s, 1), false);
        }
        wordIs("wrong ones do nothing", x, "3:1 -2");
        x = with(7);
        Due.equal("grow from 7", x.grow(0, -1), true);
        Due.equal("grow from 8", x.grow(0, 1), false);
        wordIs("8 strands", x, "8:-7");
        x = full(2, 1);
        Due.equal("grow 32 letters", x.grow(0, 1), false);
        Due.equal("32 letters stay", x.many(0, 1), 32);
        Due.equal("2 strands stay", x.many(0, 0), 2);
        x.reduce(0, false);
        x = with(2);
        for (int k = 0; k < 31; k++) {
            x.letter(0, 1);
        }
        Due.equal("grow 31 letters", x.grow(0, 1), true);
        Due.equal("letter 32", x.at(0, 31), 2);
    }

    private static void shrink() {
        BraidWords x = with(4, 1, 2, -3);
        Due.equal("shrink", x.shrink(0), true);
        wordIs("shrunk", x, "3:1 2");
        Due.equal("shrink", x.shrink(0), true);
        Due.equal("shrink", x.shrink(0), true);
        wordIs("shrunk", x, "1:");
        Due.equal("shrink 1 strand", x.shrink(0), false);
        wordIs("1 strand stays", x, "1:");
        x = with(4, 1, 3, 2, 3);
        Due.equal("shrink, crossed by another", x.shrink(0), false);
        wordIs("nothing done", x, "4:1 3 2 3");
        x = with(4, -3, 2, 3);
        Due.equal("shrink, crossed by another sign", x.shrink(0), false);
        x = with(4, 1, 3, 2);
        Due.equal("shrink, not the last letter", x.shrink(0), false);
        wordIs("nothing done", x, "4:1 3 2");
        x = with(4);
        Due.equal("shrink no letters", x.shrink(0), false);
        wordIs("nothing done", x, "4:");
        for (int s : NO_SLOTS) {
            Due.equal("shrink no slot", x.shrink(s), false);
        }
    }

    private static void same() {
        BraidWords x = with(4, 1, 2, 1, 3);
        Words.put(x, 1, 4, 2, 1, 3, -1, 1, 2, -3, 3);
        Due.equal("different", x.same(0, 1), false);
        Words.put(x, 1, 4, 2, 1, 2, -1, 1, 3);
        Due.equal("one braid", x.same(0, 1), true);
        Due.equal("one braid, other way", x.same(1, 0), true);
        Due.equal("itself", x.same(0, 0), true);
        Words.put(x, 1, 5, 1, 2, 1, 3);
        Due.equal("other strands", x.same(0, 1), false);
        Words.put(x, 2, 2);
        Words.put(x, 3, 3);
        Due.equal("no letters, other strands", x.same(2, 3), false);
        for (int s : NO_SLOTS) {
            Due.equal("same, no slot left", x.same(s, 0), false);
            Due.equal("same, no slot right", x.same(0, s), false);
            Due.equal("same, no slots", x.same(s, s), false);
        }
        Words.put(x, 0, 2, 1);
        Words.put(x, 1, 2, -1);
        Due.equal("the permutation alone is not enough", x.same(0, 1), false);
        Words.put(x, 0, 3, 1, -2, 1, -2);
        Words.put(x, 1, 3, -2, 1, -2, 1);
        Due.equal("as many signs alone are not enough", x.same(0, 1), false);
        Words.put(x, 0, 3, 1, 2, 1, 2, 1, 2, 1);
        Words.put(x, 1, 3, 1, 1, 2, 1, 2, 1, 2);
        Due.equal("a full turn goes anywhere", x.same(0, 1), true);
    }

    private static void form() {
        BraidWords x = with(3, 1, 1);
        Due.equal("form of 1 1", Words.normalForm(x, 0), "0 213 213");
        Words.put(x, 0, 3, -1);
        Due.equal("form of -1", Words.normalForm(x, 0), "-1 312");
        Words.put(x, 0, 3, -2);
        Due.equal("form of -2", Words.normalForm(x, 0), "-1 231");
        Words.put(x, 0, 3, 1, 2);
        Due.equal("form of 1 2", Words.normalForm(x, 0), "0 312");
        Words.put(x, 0, 3, 2, 1, 2, 1);
        Due.equal("form of TURN 1", Words.normalForm(x, 0), "1 213");
        Words.put(x, 0, 3, 1, 2, 1, 2);
        Due.equal("form of TURN 2", Words.normalForm(x, 0), "1 132");
        Words.put(x, 0, 3, 1, -2);
        Due.equal("form of 1 -2", Words.normalForm(x, 0), "-1 132 231");
        Words.put(x, 0, 2, 1, 1, 1);
        Due.equal("2 strands have TURNs alone", Words.normalForm(x, 0), "3");
        Words.put(x, 0, 2, -1);
        Due.equal("2 strands back", Words.normalForm(x, 0), "-1");
        Due.equal("p is not looked at", x.form(0, 0, LEAST), -1);
        Due.equal("p is not looked at", x.form(0, 0, 99), -1);
        Words.put(x, 0, 4, 1, 3, 2, 2);
        Due.equal("form of 1 3 2 2", Words.normalForm(x, 0), "0 3142 1324");
        for (int j : new int[] {-1, 3, LEAST, MOST}) {
            Due.equal("form of no S " + j, x.form(0, j, 1), 0);
        }
        for (int p : new int[] {0, -1, 5, 8, 9, LEAST, MOST}) {
            Due.equal("form of no place " + p, x.form(0, 1, p), 0);
        }
        for (int s : NO_SLOTS) {
            Due.equal("form of no slot", x.form(s, 0, 1), 0);
            Due.equal("form of no slot", x.form(s, 1, 1), 0);
        }
        Due.equal("form with 1 strand", x.form(1, 1, 1), 0);
        Due.equal("k with 1 strand", x.form(1, 0, 1), 0);
        Due.equal("32 letters, 2 strands", Words.normalForm(full(2, -1), 0), "-32");
        Due.equal("32 letters, 8 strands", full(8, 4).form(0, 32, 4), 5);
        Due.equal("32 letters back, 8 strands", full(8, -4).form(0, 0, 0), -32);
        Due.equal("32 letters back, 8 strands", full(8, -4).form(0, 32, 1), 8);
    }

    private static void formFollowsTheWord() {
        BraidWords x = with(4, 1, 2);
        Due.equal("form", Words.normalForm(x, 0), "0 3124");
        x.round(0, false);
        Due.equal("form after round", Words.normalForm(x, 0), "0 2314");
        x.letter(0, 2);
        x.pass(0, 0);
        Due.equal("form after pass", Words.normalForm(x, 0), "0 3214");
        x.letter(0, -1);
        x.reduce(0, false);
        Due.equal("form after reduce", Words.normalForm(x, 0), "0 3124");
        x.copy(0, 0, true);
        Due.equal("form after copy", Words.normalForm(x, 0), "-1 4132");
        x.strands(0, 2);
        Due.equal("form after strands", Words.normalForm(x, 0), "0");
        x.grow(0, 1);
        Due.equal("form after grow", Words.normalForm(x, 0), "0 132");
        x.shrink(0);
        Due.equal("form after shrink", Words.normalForm(x, 0), "0");
        Due.equal("a form of other strands is another", x.same(0, 1), false);
    }

    private static void length() {
        Due.equal("length of 1 1", with(3, 1, 1).length(0), 2);
        Due.equal("length of 1 3", with(4, 1, 3).length(0), 1);
        Due.equal("length of TURN", with(3, 1, 2, 1).length(0), 0);
        Due.equal("length of none", with(8).length(0), 0);
        Due.equal("length of 1 strand", new BraidWords().length(3), 0);
        Due.equal("length of 32", full(3, 1).length(0), 32);
        Due.equal("length of 32 back", full(8, -1).length(0), 32);
        for (int s : NO_SLOTS) {
            Due.equal("length of no slot", with(3, 1).length(s), -1);
        }
    }

    private static void crossing() {
        BraidWords x = with(3, 1, -2, 1, -2);
        Due.equal("crossing 0", Words.labels(x, 0, 0), "1 4 5 2 1");
        Due.equal("crossing 1", Words.labels(x, 0, 1), "3 5 6 7 -1");
        Due.equal("crossing 2", Words.labels(x, 0, 2), "4 1 9 6 1");
        Due.equal("crossing 3", Words.labels(x, 0, 3), "7 9 2 3 -1");
        for (int k : new int[] {-1, 4, 31, 32, LEAST, MOST}) {
            Due.equal("crossing " + k, Words.labels(x, 0, k), "0 0 0 0 0");
        }
        for (int what : new int[] {-1, 5, LEAST, MOST}) {
            Due.equal("crossing what " + what, x.crossing(0, 0, what), 0);
        }
        for (int s : NO_SLOTS) {
            for (int what = 0; what <= 4; what++) {
                Due.equal("crossing of no slot", x.crossing(s, 0, what), 0);
            }
        }
        Due.equal("crossing of no letters", x.crossing(1, 0, 4), 0);
        x = full(8, 7);
        Due.equal("the first of 32", Words.labels(x, 0, 0), "7 9 10 8 1");
        Due.equal("the last of 32", Words.labels(x, 0, 31), "69 7 8 70 1");
    }

    private static void crossingOfOneLetter() {
        Due.equal("one letter", Words.labels(with(2, 1), 0, 0), "1 1 2 2 1");
        Due.equal("one letter back", Words.labels(with(2, -1), 0, 0), "2 1 1 2 -1");
        Due.equal("one letter among circles", Words.labels(with(5, 3), 0, 0), "3 3 4 4 1");
        Due.equal("labels count on over other places", Words.labels(with(5, 1, 4), 0, 1), "4 4 5 5 1");
        Due.equal("labels of the second letter", Words.labels(with(5, 1, -4, 4), 0, 1), "5 4 8 9 -1");
    }

    private static void slotsAreApart() {
        BraidWords x = new BraidWords();
        for (int s = 0; s < 4; s++) {
            Words.put(x, s, s + 2, s + 1, -s - 1, s + 1);
        }
        x.reduce(1, false);
        x.strands(2, 8);
        Due.equal("slot 0", Words.word(x, 0), "2:1 -1 1");
        Due.equal("slot 1", Words.word(x, 1), "3:2");
        Due.equal("slot 2", Words.word(x, 2), "8:");
        Due.equal("slot 3", Words.word(x, 3), "5:4 -4 4");
        BraidWords y = new BraidWords();
        Due.equal("another object", Words.word(y, 0), "1:");
    }
}
