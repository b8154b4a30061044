import java.util.Random;

/** Runs of 512 calls, wild arguments among them, against a model that is written as plainly as the document. */
public final class ModelTest {
    private static final int RUNS = 400;
    private static final int CALLS = 512;
    private static final int MOST_CALLS_OF_A_FORM = 35;
    private static final int[] WILD = {Integer.MIN_VALUE, -1000, -33, -9, 9, 32, 33, 1 << 30, Integer.MAX_VALUE - 1,
        Integer.MAX_VALUE};
    private static final Random RANDOM = new Random(1729);

    private final BraidWords braids = new BraidWords();
    private final Model model = new Model();
    private int made = 0;

    public static void main(String[] args) {
        for (int run = 0; run < RUNS; run++) {
            ModelTest test = new ModelTest();
            while (test.made < CALLS) {
                test.call(run % 4);
            }
        }
        Due.finish();
    }

    /** Taste 0: any calls; 1: few ways to clear; 2: many letters; 3: wild arguments more often. */
    private void call(int taste) {
        int wildness = taste == 3 ? 5 : 60;
        int s = number(0, 3, wildness);
        int r = number(0, 3, wildness);
        int kind = RANDOM.nextInt(taste == 2 ? 60 : 34);
        boolean flag = RANDOM.nextBoolean();
        int k = number(-1, 33, wildness);
        if (kind >= 17) {
            int l = number(-7, 7, wildness);
            due("letter", s, l, braids.letter(s, l), model.letter(s, l));
        } else if (kind < 5) {
            change(kind, taste, s, r, flag);
        } else if (kind < 10) {
            move(kind, s, k, flag);
        } else {
            ask(kind, s, r, k, wildness);
        }
    }

    private static int number(int from, int to, int wildness) {
        if (RANDOM.nextInt(wildness) == 0) {
            return WILD[RANDOM.nextInt(WILD.length)];
        }
        return from + RANDOM.nextInt(to - from + 1);
    }

    /** Every call of the braids is told here, or counted where it is made: behind the 512th, answers are free. */
    private void due(String name, int a, int b, int got, int want) {
        made++;
        Due.equal(name + "(" + a + ", " + b + ", ..)", got, want);
    }

    private static int bit(boolean b) {
        return b ? 1 : 0;
    }

    private void change(int kind, int taste, int s, int r, boolean flag) {
        int n = number(0, 9, 20);
        int sign = number(-2, 2, 20);
        switch (kind) {
            case 0:
                if (taste == 0 || RANDOM.nextInt(8) == 0) {
                    due("strands", s, n, bit(braids.strands(s, n)), bit(model.strands(s, n)));
                }
                break;
            case 1:
                due("copy", r, s, bit(braids.copy(r, s, flag)), bit(model.copy(r, s, flag)));
                break;
            case 2:
            case 3:
                due("grow", s, sign, bit(braids.grow(s, sign)), bit(model.grow(s, sign)));
                break;
            default:
                due("shrink", s, 0, bit(braids.shrink(s)), bit(model.shrink(s)));
        }
    }

    private void move(int kind, int s, int k, boolean flag) {
        switch (kind) {
            case 5:
                if (RANDOM.nextInt(4) == 0) {
                    due("reduce", s, bit(flag), braids.reduce(s, flag), model.reduce(s, flag));
                }
                break;
            case 6:
                due("round", s, bit(flag), bit(braids.round(s, flag)), bit(model.round(s, flag)));
                break;
            case 7:
                due("exchange", s, k, bit(braids.exchange(s, k)), bit(model.exchange(s, k)));
                break;
            default:
                due("pass", s, k, bit(braids.pass(s, k)), bit(model.pass(s, k)));
        }
    }

    private void ask(int kind, int s, int r, int k, int wildness) {
        int what = number(-1, 5, wildness);
        int p = number(0, 9, wildness);
        switch (kind) {
            case 10:
                due("many", s, what, braids.many(s, what), model.many(s, what));
                break;
            case 11:
                due("at", s, k, braids.at(s, k), model.at(s, k));
                break;
            case 12:
                due("end", s, p, braids.end(s, p), model.end(s, p));
                break;
            case 13:
                if (made <= CALLS - MOST_CALLS_OF_A_FORM) {
                    formAgreesWithEnds(s, p);
                }
                break;
            case 14:
                sameAsFarAsTheModelKnows(r, s);
                break;
            default:
                due("crossing", s, k, braids.crossing(s, k, what), model.crossing(s, k, what));
        }
    }

    private void sameAsFarAsTheModelKnows(int r, int s) {
        boolean got = braids.same(r, s);
        if (model.lacks(r) || model.lacks(s) || model.strands(r) != model.strands(s)) {
            due("same", r, s, bit(got), 0);
        } else if (model.word(r).equals(model.word(s))) {
            due("same", r, s, bit(got), 1);
        } else if (model.many(r, 2) != model.many(s, 2) || model.end(r, 1) != model.end(s, 1)) {
            due("same", r, s, bit(got), 0);
        } else {
            BraidWords fresh = fresh(r, s);
            due("same", r, s, bit(got), bit(fresh.same(0, 1)));
        }
    }

    /** A new object, with no calls behind it, with the words of these slots. */
    private BraidWords fresh(int r, int s) {
        BraidWords x = new BraidWords();
        Words.put(x, 0, model.strands(r), model.letters(r));
        Words.put(x, 1, model.strands(s), model.letters(s));
        return x;
    }

    /** The form's braids, one behind the other, must lead each strand to where the word leads it. */
    private void formAgreesWithEnds(int s, int p) {
        int size = braids.length(s);
        int power = braids.form(s, 0, p);
        made += 2;
        Due.equal("length of " + s + " is -1", size == -1, model.lacks(s));
        if (model.lacks(s) || p < 1 || p > model.strands(s)) {
            due("form", s, 1, braids.form(s, 1, p), 0);
            return;
        }
        BraidWords fresh = fresh(s, s);
        Due.equal("length of " + s, size, fresh.length(0));
        Due.equal("k of " + s, power, fresh.form(0, 0, 0));
        int place = power % 2 == 0 ? p : model.strands(s) + 1 - p;
        for (int j = 1; j <= size; j++) {
            int next = braids.form(s, j, place);
            due("form", s, j, next, fresh.form(0, j, place));
            place = next;
        }
        Due.equal("ends by form of " + s + ", " + p, place, model.end(s, p));
        due("form behind the last", s, p, braids.form(s, size + 1, p), 0);
    }
}
