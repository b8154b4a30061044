import java.math.BigInteger;
import java.util.ArrayList;
import java.util.Arrays;
import java.util.List;
import java.util.Random;

/**
 * Normal forms against the document's own words: the form is a word for the same braid (by Dynnikov's coordinates,
 * which know nothing of simple braids), and each of its conditions holds. As there is just one, it is then the one.
 */
public final class NormalFormTest {
    private static final BigInteger ZERO = BigInteger.ZERO;
    private static final Random RANDOM = new Random(20261115);

    public static void main(String[] args) {
        coordinatesKeepTheRelations();
        everyShortWord();
        longWords();
        pairsOfWords();
        movedWords();
        Due.finish();
    }

    private static void coordinatesKeepTheRelations() {
        int[] word = {1, -2, 3, 2, -1, 3};
        for (int[] pair : new int[][] {{1, 2}, {2, 1}, {2, 3}, {3, 2}}) {
            int i = pair[0];
            int j = pair[1];
            Due.equal("coordinates, i j i", oneBraid(4, join(word, i, j, i), join(word, j, i, j)), true);
            Due.equal("coordinates, i -i", oneBraid(4, join(word, i, -i), word), true);
            Due.equal("coordinates, -i i", oneBraid(4, join(word, -i, i), word), true);
            Due.equal("coordinates, i j", oneBraid(4, join(word, i, j), join(word, j, i)), false);
            Due.equal("coordinates, i i", oneBraid(4, join(word, i, i), word), false);
        }
        Due.equal("coordinates, 1 3", oneBraid(4, join(word, 1, 3), join(word, 3, 1)), true);
    }

    private static void everyShortWord() {
        for (int n = 2; n <= 4; n++) {
            int kinds = 2 * (n - 1);
            for (int size = 0; size <= 5; size++) {
                int words = (int) Math.pow(kinds, size);
                for (int number = 0; number < words; number++) {
                    checkForm(n, numbered(n, size, number));
                }
            }
        }
    }

    private static int[] numbered(int n, int size, int number) {
        int[] word = new int[size];
        int rest = number;
        for (int k = 0; k < size; k++) {
            int kind = rest % (2 * (n - 1));
            rest /= 2 * (n - 1);
            word[k] = kind < n - 1 ? kind + 1 : n - 2 - kind;
        }
        return word;
    }

    private static void longWords() {
        for (int n = 2; n <= 8; n++) {
            for (int turn = 0; turn < 120; turn++) {
                checkForm(n, randomWord(n, turn % 4 == 0 ? 32 : RANDOM.nextInt(33), turn % 3));
            }
        }
    }

    /** Signs: 0 both, 1 above 0 alone, 2 mostly below 0. */
    private static int[] randomWord(int n, int size, int signs) {
        int[] word = new int[size];
        for (int k = 0; k < size; k++) {
            boolean below = signs == 0 ? RANDOM.nextBoolean() : signs == 2 && RANDOM.nextInt(5) > 0;
            word[k] = (1 + RANDOM.nextInt(n - 1)) * (below ? -1 : 1);
        }
        return word;
    }

    private static void checkForm(int n, int[] word) {
        BraidWords x = new BraidWords();
        Words.put(x, 0, n, word);
        String name = n + " strands, " + Arrays.toString(word);
        int size = x.length(0);
        int[][] rows = new int[size + 1][n + 1];
        for (int j = 1; j <= size; j++) {
            for (int p = 1; p <= n; p++) {
                rows[j][p] = x.form(0, j, p);
            }
            if (!isPermutation(rows[j])) {
                Due.report(name + ": S" + j + " is no permutation");
                return;
            }
            Due.equal(name + ": S" + j + " is TURN", Arrays.equals(rows[j], turn(n)), false);
            Due.equal(name + ": S" + j + " is NONE", letters(rows[j]).isEmpty(), false);
        }
        for (int j = 1; j < size; j++) {
            Due.equal(name + ": neighbours from " + j, neighboursFit(rows[j], rows[j + 1]), true);
        }
        Due.equal(name + ": one braid", oneBraid(n, word, formWord(n, x.form(0, 0, 0), rows)), true);
        Due.equal(name + ": nothing behind", x.form(0, size + 1, 1), 0);
    }

    private static boolean isPermutation(int[] row) {
        int[] sorted = row.clone();
        Arrays.sort(sorted);
        for (int p = 0; p < sorted.length; p++) {
            if (sorted[p] != p) {
                return false;
            }
        }
        return true;
    }

    private static int[] turn(int n) {
        int[] row = new int[n + 1];
        for (int p = 1; p <= n; p++) {
            row[p] = n + 1 - p;
        }
        return row;
    }

    /** A word with letters above 0 in which just the strands cross that must. */
    private static List<Integer> letters(int[] row) {
        int[] rest = row.clone();
        List<Integer> word = new ArrayList<>();
        for (int i = 1; i < rest.length - 1; i++) {
            if (rest[i] > rest[i + 1]) {
                word.add(i);
                int first = rest[i];
                rest[i] = rest[i + 1];
                rest[i + 1] = first;
                i = 0;
            }
        }
        return word;
    }

    private static boolean neighboursFit(int[] left, int[] right) {
        int[] startOf = new int[left.length];
        for (int p = 1; p < left.length; p++) {
            startOf[left[p]] = p;
        }
        for (int i = 1; i < left.length - 1; i++) {
            if (right[i] > right[i + 1] && startOf[i] < startOf[i + 1]) {
                return false;
            }
        }
        return true;
    }

    private static int[] formWord(int n, int power, int[][] rows) {
        List<Integer> word = new ArrayList<>();
        List<Integer> turn = letters(turn(n));
        for (int t = 0; t < Math.abs(power); t++) {
            for (int k = 0; k < turn.size(); k++) {
                word.add(power > 0 ? turn.get(k) : -turn.get(turn.size() - 1 - k));
            }
        }
        for (int j = 1; j < rows.length; j++) {
            word.addAll(letters(rows[j]));
        }
        return word.stream().mapToInt(Integer::intValue).toArray();
    }

    private static void pairsOfWords() {
        for (int n = 2; n <= 4; n++) {
            for (int turn = 0; turn < 4000; turn++) {
                int[] left = randomWord(n, RANDOM.nextInt(6), 0);
                int[] right = randomWord(n, RANDOM.nextInt(6), 0);
                BraidWords x = new BraidWords();
                Words.put(x, 1, n, left);
                Words.put(x, 2, n, right);
                String name = n + " strands, same " + Arrays.toString(left) + Arrays.toString(right);
                Due.equal(name, x.same(1, 2), oneBraid(n, left, right));
            }
        }
    }

    /** Words that become one another by the class's own moves, and then one letter's sign is another. */
    private static void movedWords() {
        for (int turn = 0; turn < 600; turn++) {
            int n = 3 + turn % 6;
            BraidWords x = new BraidWords();
            Words.put(x, 0, n, randomWord(n, 32, turn % 3));
            x.copy(1, 0, false);
            for (int move = 0; move < 100; move++) {
                x.exchange(1, RANDOM.nextInt(32));
                x.pass(1, RANDOM.nextInt(32));
            }
            x.reduce(1, false);
            Due.equal("same after moves", x.same(0, 1), true);
            Due.equal("k after moves", x.form(0, 0, 0), x.form(1, 0, 0));
            x.copy(2, 0, true);
            x.copy(3, 2, true);
            Due.equal("same after two inverses", x.same(1, 3), true);
            Due.equal("length of the inverse", x.length(2), x.length(0));
            Due.equal("k of the inverse", x.form(2, 0, 0), -x.form(0, 0, 0) - x.length(0));
            if (x.many(1, 1) < 32) {
                x.letter(1, 1);
                Due.equal("same with one letter more", x.same(0, 1), false);
            }
        }
    }

    private static int[] join(int[] word, int... more) {
        int[] all = Arrays.copyOf(word, word.length + more.length);
        System.arraycopy(more, 0, all, word.length, more.length);
        return all;
    }

    private static boolean oneBraid(int n, int[] left, int[] right) {
        return Arrays.equals(coordinates(n, left), coordinates(n, right));
    }

    /** Dynnikov's coordinates of a word's action on 0, 1, 0, 1, ..; only one braid leaves those as they are. */
    private static BigInteger[] coordinates(int n, int[] word) {
        BigInteger[] c = new BigInteger[2 * n];
        for (int k = 0; k < c.length; k++) {
            c[k] = k % 2 == 0 ? ZERO : BigInteger.ONE;
        }
        for (int l : word) {
            act(c, l);
        }
        return c;
    }

    private static void act(BigInteger[] c, int l) {
        int at = 2 * Math.abs(l) - 2;
        BigInteger x1 = c[at];
        BigInteger y1 = c[at + 1];
        BigInteger x2 = c[at + 2];
        BigInteger y2 = c[at + 3];
        if (l > 0) {
            BigInteger z = x1.subtract(below(y1)).subtract(x2).add(above(y2));
            c[at] = x1.add(above(y1)).add(above(above(y2).subtract(z)));
            c[at + 1] = y2.subtract(above(z));
            c[at + 2] = x2.add(below(y2)).add(below(below(y1).add(z)));
            c[at + 3] = y1.add(above(z));
        } else {
            BigInteger z = x1.add(below(y1)).subtract(x2).subtract(above(y2));
            c[at] = x1.subtract(above(y1)).subtract(above(above(y2).add(z)));
            c[at + 1] = y2.add(below(z));
            c[at + 2] = x2.subtract(below(y2)).subtract(below(below(y1).subtract(z)));
            c[at + 3] = y1.subtract(below(z));
        }
    }

    private static BigInteger above(BigInteger a) {
        return a.max(ZERO);
    }

    private static BigInteger below(BigInteger a) {
        return a.min(ZERO);
    }
}
