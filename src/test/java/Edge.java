/**
 * One edge of the document at a time: the call's answer, and what all four slots hold behind it. The slot with the
 * word is each of the four in turn; the others hold the extremes, so that a call that reaches over is seen.
 */
final class Edge {
    private static final String[] OTHERS = {Words.row(8, 32, 1, -7, 4, 4), "8:", "1:", "4:1 -3 2 -1"};

    interface Call {
        Object on(BraidWords x, int s);
    }

    private Edge() { }

    /** The call answers so, and the slot then holds that word; the other slots are as they were. */
    static void does(String name, String word, Call call, Object want, String behind) {
        for (int s = 0; s < 4; s++) {
            BraidWords x = start();
            Words.put(x, s, word);
            String what = name + " of " + word + " in slot " + s;
            Due.equal(what, String.valueOf(call.on(x, s)), String.valueOf(want));
            holds(what, x, s, behind);
        }
    }

    /** The call answers so, and every slot is as it was: a refused call, or one that only asks. */
    static void answers(String name, String word, Call call, Object want) {
        does(name, word, call, want, word);
    }

    /** The call, of any slot that there is not, answers so and does nothing. */
    static void noSlot(String name, Call call, Object want) {
        for (int s : Words.NO_SLOTS) {
            BraidWords x = start();
            String what = name + " of slot " + s;
            Due.equal(what, String.valueOf(call.on(x, s)), String.valueOf(want));
            holds(what, x, s, "");
        }
    }

    private static BraidWords start() {
        BraidWords x = new BraidWords();
        for (int s = 0; s < 4; s++) {
            Words.put(x, s, OTHERS[s]);
        }
        return x;
    }

    private static void holds(String what, BraidWords x, int changed, String word) {
        for (int s = 0; s < 4; s++) {
            String due = Words.plain(s == changed ? word : OTHERS[s]);
            Due.equal(what + ": slot " + s + " then", Words.word(x, s), due);
            BraidWords twin = new BraidWords();
            Words.put(twin, 0, due);
            Due.equal(what + ": k of " + s + " then", x.form(s, 0, 0), twin.form(0, 0, 0));
            Due.equal(what + ": length of " + s + " then", x.length(s), twin.length(0));
        }
    }
}
