import java.util.Arrays;
import java.util.Random;

/**
 * The crossings as one link diagram: every label goes out of one place and comes in at one, the strands so joined are
 * the components, and the diagram's colourings stay when a move leaves its link as it is. How a label is made is not
 * looked at here: that is in the written answers and in the model.
 */
public final class ClosureTest {
    private static final Random RANDOM = new Random(161803);
    private static final int[] PRIMES = {3, 5, 7};

    private final BraidWords braids = new BraidWords();
    private String name = "";
    private int[][] crossings = new int[0][];

    public static void main(String[] args) {
        knownColours("2:1 1 1", 2, 1, 1);
        knownColours("2:-1 -1 -1", 2, 1, 1);
        knownColours("3:1 -2 1 -2", 1, 2, 1);
        knownColours("2:1 1 1 1 1 1 1", 1, 1, 2);
        knownColours("2:1", 1, 1, 1);
        knownColours("5:", 5, 5, 5);
        for (int turn = 0; turn < 400; turn++) {
            int n = 1 + turn % 8;
            new ClosureTest().joins(randomWord(n, turn % 5 == 0 ? 32 : RANDOM.nextInt(33)));
        }
        for (int turn = 0; turn < 300; turn++) {
            new ClosureTest().keepsColours(randomWord(2 + turn % 6, RANDOM.nextInt(21)));
        }
        Due.finish();
    }

    private static String randomWord(int n, int size) {
        int[] part = new int[32];
        for (int k = 0; k < part.length; k++) {
            part[k] = n == 1 ? 0 : (1 + RANDOM.nextInt(n - 1)) * (RANDOM.nextBoolean() ? 1 : -1);
        }
        return Words.row(n, n == 1 ? 0 : size, part);
    }

    private static void knownColours(String word, int... due) {
        ClosureTest test = new ClosureTest();
        Words.put(test.braids, 0, word);
        test.look(word);
        Due.equal("colours of " + word, test.colours(), Arrays.toString(due));
    }

    private void look(String what) {
        name = what;
        crossings = new int[braids.many(0, 1)][5];
        for (int k = 0; k < crossings.length; k++) {
            for (int place = 0; place <= 4; place++) {
                crossings[k][place] = braids.crossing(0, k, place);
            }
        }
    }

    /** Seen along the lower strand, the upper one goes from left to right where the sign is above 0. */
    private static int upperIn(int[] crossing) {
        return crossing[crossing[4] > 0 ? 3 : 1];
    }

    private static int upperOut(int[] crossing) {
        return crossing[crossing[4] > 0 ? 1 : 3];
    }

    private void joins(String word) {
        Words.put(braids, 0, word);
        look("closure of " + word);
        int strands = braids.many(0, 0);
        int[] next = new int[strands + 2 * crossings.length + 1];
        int[] goesOut = new int[next.length];
        int signs = 0;
        for (int[] crossing : crossings) {
            for (int place = 0; place < 4; place++) {
                if (crossing[place] < 1 || crossing[place] >= next.length) {
                    Due.report(name + ": there is a label " + crossing[place]);
                    return;
                }
            }
            Due.equal(name + ": comes in twice", next[crossing[0]], 0);
            next[crossing[0]] = crossing[2];
            Due.equal(name + ": comes in twice", next[upperIn(crossing)], 0);
            next[upperIn(crossing)] = upperOut(crossing);
            goesOut[crossing[2]]++;
            goesOut[upperOut(crossing)]++;
            signs += crossing[4];
        }
        for (int label = 1; label < next.length; label++) {
            Due.equal(name + ": label " + label + " goes out", goesOut[label], next[label] == 0 ? 0 : 1);
        }
        Due.equal(name + ": signs", signs, braids.many(0, 2));
        int circles = unused(next, strands);
        Due.equal(name + ": circles", circles, braids.many(0, 4));
        Due.equal(name + ": components", circles + cycles(next), braids.many(0, 3));
    }

    private static int unused(int[] next, int strands) {
        int found = 0;
        for (int p = 1; p <= strands; p++) {
            found += next[p] == 0 ? 1 : 0;
        }
        return found;
    }

    private static int cycles(int[] next) {
        int[] rest = next.clone();
        int found = 0;
        for (int label = 1; label < rest.length; label++) {
            found += rest[label] == 0 ? 0 : 1;
            for (int at = label; rest[at] != 0; ) {
                int following = rest[at];
                rest[at] = 0;
                at = following;
            }
        }
        return found;
    }

    private void keepsColours(String word) {
        Words.put(braids, 0, word);
        look("colours of " + word);
        String before = colours();
        for (int move = 0; move < 40; move++) {
            int k = RANDOM.nextInt(20);
            switch (RANDOM.nextInt(5)) {
                case 0 -> braids.round(0, RANDOM.nextBoolean());
                case 1 -> braids.exchange(0, k);
                case 2 -> braids.pass(0, k);
                case 3 -> braids.shrink(0);
                default -> braids.grow(0, RANDOM.nextBoolean() ? 1 : -1);
            }
        }
        if (RANDOM.nextBoolean()) {
            braids.reduce(0, RANDOM.nextBoolean());
        }
        look(name + ", moved to " + Words.word(braids, 0));
        Due.equal(name, colours(), before);
    }

    /** For each prime, of how many dimensions its colourings are: circles are coloured freely. */
    private String colours() {
        int[] found = new int[PRIMES.length];
        for (int q = 0; q < PRIMES.length; q++) {
            found[q] = braids.many(0, 4) + 2 * crossings.length - rank(PRIMES[q]);
        }
        return Arrays.toString(found);
    }

    /** Of the rules, at each crossing, that the upper strand keeps its colour and lies midway between the lower ones. */
    private int rank(int prime) {
        int labels = braids.many(0, 0) + 2 * crossings.length;
        int[][] rules = new int[2 * crossings.length][labels + 1];
        for (int k = 0; k < crossings.length; k++) {
            int[] crossing = crossings[k];
            rules[2 * k][crossing[1]] += 1;
            rules[2 * k][crossing[3]] -= 1;
            rules[2 * k + 1][crossing[0]] += 1;
            rules[2 * k + 1][crossing[2]] += 1;
            rules[2 * k + 1][crossing[1]] -= 2;
        }
        int rank = 0;
        for (int label = 1; label <= labels && rank < rules.length; label++) {
            if (clearBelow(rules, rank, label, prime)) {
                rank++;
            }
        }
        return rank;
    }

    private static boolean clearBelow(int[][] rules, int top, int label, int prime) {
        int pivot = top;
        while (pivot < rules.length && rules[pivot][label] % prime == 0) {
            pivot++;
        }
        if (pivot == rules.length) {
            return false;
        }
        int[] rule = rules[pivot];
        rules[pivot] = rules[top];
        rules[top] = rule;
        for (int row = top + 1; row < rules.length; row++) {
            int factor = rules[row][label];
            for (int at = 0; at < rule.length; at++) {
                rules[row][at] = (rules[row][at] * rule[label] - rule[at] * factor) % prime;
            }
        }
        return true;
    }
}
