/** "A slot, 0 to 3": what each promise says of a slot that there is not; the slots that there are stay as they were. */
public final class EdgeSlotTest {
    public static void main(String[] args) {
        strands();
        letter();
        copy();
        many();
        at();
        end();
        reduce();
        round();
        exchange();
        pass();
        grow();
        shrink();
        same();
        form();
        length();
        crossing();
        Due.finish();
    }

    /** "false when there is no such slot" */
    private static void strands() {
        for (int n = 0; n <= 9; n++) {
            int strands = n;
            Edge.noSlot("strands " + n, (x, s) -> x.strands(s, strands), false);
        }
    }

    /** "-1, doing nothing, when there is no such slot" */
    private static void letter() {
        for (int l : new int[] {-7, -1, 0, 1, 7, Words.LEAST}) {
            Edge.noSlot("letter " + l, (x, s) -> x.letter(s, l), -1);
        }
    }

    /** "False when there are no such slots." */
    private static void copy() {
        for (boolean back : new boolean[] {false, true}) {
            for (int slot = 0; slot < 4; slot++) {
                int there = slot;
                Edge.noSlot("copy to none, back " + back, (x, s) -> x.copy(s, there, back), false);
                Edge.noSlot("copy from none, back " + back, (x, s) -> x.copy(there, s, back), false);
            }
            Edge.noSlot("copy from none to none, back " + back, (x, s) -> x.copy(s, s, back), false);
        }
    }

    /** "-1000 for others." */
    private static void many() {
        for (int what = -1; what <= 5; what++) {
            int asked = what;
            Edge.noSlot("many " + what, (x, s) -> x.many(s, asked), -1000);
        }
    }

    /** "0 when there is none." */
    private static void at() {
        for (int k : new int[] {-1, 0, 31, 32}) {
            Edge.noSlot("at " + k, (x, s) -> x.at(s, k), 0);
        }
    }

    /** "0 when there is none." */
    private static void end() {
        for (int p : new int[] {0, 1, 8, 9}) {
            Edge.noSlot("end " + p, (x, s) -> x.end(s, p), 0);
        }
    }

    /** "how many letters went": the document says no more of no such slot, and none went. */
    private static void reduce() {
        Edge.noSlot("reduce", (x, s) -> x.reduce(s, false), 0);
        Edge.noSlot("reduce with ends", (x, s) -> x.reduce(s, true), 0);
    }

    /** "false when there is no letter." */
    private static void round() {
        Edge.noSlot("round", (x, s) -> x.round(s, false), false);
        Edge.noSlot("round back", (x, s) -> x.round(s, true), false);
    }

    /** "false, doing nothing, when there are none such" */
    private static void exchange() {
        for (int k : new int[] {-1, 0, 1, 30, Words.MOST}) {
            Edge.noSlot("exchange " + k, (x, s) -> x.exchange(s, k), false);
        }
    }

    /** "false, doing nothing, when there are none such" */
    private static void pass() {
        for (int k : new int[] {-1, 0, 1, 29, Words.MOST}) {
            Edge.noSlot("pass " + k, (x, s) -> x.pass(s, k), false);
        }
    }

    /** "false when there is no such slot" */
    private static void grow() {
        for (int sign = -2; sign <= 2; sign++) {
            int given = sign;
            Edge.noSlot("grow " + sign, (x, s) -> x.grow(s, given), false);
        }
    }

    /** "false, doing nothing, otherwise." */
    private static void shrink() {
        Edge.noSlot("shrink", (x, s) -> x.shrink(s), false);
    }

    /** "false when there are no such slots." */
    private static void same() {
        for (int slot = 0; slot < 4; slot++) {
            int there = slot;
            Edge.noSlot("same, left is none", (x, s) -> x.same(s, there), false);
            Edge.noSlot("same, right is none", (x, s) -> x.same(there, s), false);
        }
        Edge.noSlot("same, both are none", (x, s) -> x.same(s, s), false);
        Edge.noSlot("same, both are none, not one", (x, s) -> x.same(s, s == 4 ? 5 : 4), false);
    }

    /** "0 when there is no such slot" */
    private static void form() {
        for (int j : new int[] {-1, 0, 1, 32}) {
            for (int p : new int[] {0, 1, 8}) {
                Edge.noSlot("form " + j + ", " + p, (x, s) -> x.form(s, j, p), 0);
            }
        }
    }

    /** "-1 when there is no such slot." */
    private static void length() {
        Edge.noSlot("length", (x, s) -> x.length(s), -1);
    }

    /** "0 when there is none." */
    private static void crossing() {
        for (int what = -1; what <= 5; what++) {
            int asked = what;
            Edge.noSlot("crossing 0, " + what, (x, s) -> x.crossing(s, 0, asked), 0);
            Edge.noSlot("crossing 31, " + what, (x, s) -> x.crossing(s, 31, asked), 0);
        }
    }
}
