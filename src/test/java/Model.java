import java.util.ArrayList;
import java.util.Collections;
import java.util.List;
import java.util.TreeSet;

/** What the document says of words and closures, without regard to speed; normal forms are not in it. */
final class Model {
    private final int[] strandCounts = {1, 1, 1, 1};
    private final List<List<Integer>> words = new ArrayList<>();

    Model() {
        for (int s = 0; s < 4; s++) {
            words.add(new ArrayList<>());
        }
    }

    boolean lacks(int s) {
        return s < 0 || s > 3;
    }

    int strands(int s) {
        return strandCounts[s];
    }

    List<Integer> word(int s) {
        return words.get(s);
    }

    int[] letters(int s) {
        return word(s).stream().mapToInt(Integer::intValue).toArray();
    }

    boolean strands(int s, int n) {
        if (lacks(s) || n < 1 || n > 8) {
            return false;
        }
        strandCounts[s] = n;
        word(s).clear();
        return true;
    }

    int letter(int s, int l) {
        if (lacks(s) || word(s).size() == 32 || l == 0 || Math.abs((long) l) > strands(s) - 1) {
            return -1;
        }
        word(s).add(l);
        return word(s).size();
    }

    boolean copy(int r, int s, boolean back) {
        if (lacks(r) || lacks(s)) {
            return false;
        }
        List<Integer> copied = new ArrayList<>(word(s));
        if (back) {
            Collections.reverse(copied);
            copied.replaceAll(l -> -l);
        }
        words.set(r, copied);
        strandCounts[r] = strandCounts[s];
        return true;
    }

    int many(int s, int what) {
        if (lacks(s) || what < 0 || what > 4) {
            return -1000;
        }
        int[] answers = {strands(s), word(s).size(), signs(s), components(s), circles(s)};
        return answers[what];
    }

    private int signs(int s) {
        int sum = 0;
        for (int l : word(s)) {
            sum += l > 0 ? 1 : -1;
        }
        return sum;
    }

    private int components(int s) {
        TreeSet<String> found = new TreeSet<>();
        for (int p = 1; p <= strands(s); p++) {
            TreeSet<Integer> places = new TreeSet<>();
            for (int q = p; places.add(q); q = end(s, q)) {
                continue;
            }
            found.add(places.toString());
        }
        return found.size();
    }

    private int circles(int s) {
        int found = strands(s);
        TreeSet<Integer> crossed = new TreeSet<>();
        for (int l : word(s)) {
            crossed.add(Math.abs(l));
            crossed.add(Math.abs(l) + 1);
        }
        return found - crossed.size();
    }

    int at(int s, int k) {
        return lacks(s) || k < 0 || k >= word(s).size() ? 0 : word(s).get(k);
    }

    int end(int s, int p) {
        if (lacks(s) || p < 1 || p > strands(s)) {
            return 0;
        }
        List<Integer> row = new ArrayList<>();
        for (int q = 1; q <= strands(s); q++) {
            row.add(q);
        }
        for (int l : word(s)) {
            Collections.swap(row, Math.abs(l) - 1, Math.abs(l));
        }
        return row.indexOf(p) + 1;
    }

    int reduce(int s, boolean ends) {
        if (lacks(s)) {
            return 0;
        }
        List<Integer> word = word(s);
        int before = word.size();
        boolean going = true;
        while (going) {
            going = removeOnePair(word);
            int last = word.size() - 1;
            if (!going && ends && last > 0 && word.get(0) == -word.get(last)) {
                word.remove(last);
                word.remove(0);
                going = true;
            }
        }
        return before - word.size();
    }

    private static boolean removeOnePair(List<Integer> word) {
        for (int k = 0; k + 1 < word.size(); k++) {
            if (word.get(k) == -word.get(k + 1)) {
                word.remove(k + 1);
                word.remove(k);
                return true;
            }
        }
        return false;
    }

    boolean round(int s, boolean back) {
        if (lacks(s) || word(s).isEmpty()) {
            return false;
        }
        Collections.rotate(word(s), back ? 1 : -1);
        return true;
    }

    boolean exchange(int s, int k) {
        int a = Math.abs(at(s, k));
        int b = k == Integer.MAX_VALUE ? 0 : Math.abs(at(s, k + 1));
        if (a == 0 || b == 0 || Math.abs(a - b) <= 1) {
            return false;
        }
        Collections.swap(word(s), k, k + 1);
        return true;
    }

    boolean pass(int s, int k) {
        if (lacks(s) || k < 0 || k > word(s).size() - 3) {
            return false;
        }
        List<Integer> part = word(s).subList(k, k + 3);
        int i = Math.abs(part.get(0));
        int j = Math.abs(part.get(1));
        int a = part.get(0) / i;
        int b = part.get(1) / j;
        int c = part.get(2) / i;
        if (Math.abs(part.get(2)) != i || Math.abs(i - j) != 1 || a == c && a != b) {
            return false;
        }
        part.set(0, c * j);
        part.set(1, b * i);
        part.set(2, a * j);
        return true;
    }

    boolean grow(int s, int sign) {
        if (lacks(s) || Math.abs((long) sign) != 1 || strands(s) == 8 || word(s).size() == 32) {
            return false;
        }
        strandCounts[s]++;
        word(s).add(sign * (strands(s) - 1));
        return true;
    }

    boolean shrink(int s) {
        if (lacks(s) || word(s).isEmpty()) {
            return false;
        }
        List<Integer> word = word(s);
        int outer = strands(s) - 1;
        long crossings = word.stream().filter(l -> Math.abs(l) == outer).count();
        if (crossings != 1 || Math.abs(word.get(word.size() - 1)) != outer) {
            return false;
        }
        word.remove(word.size() - 1);
        strandCounts[s]--;
        return true;
    }

    int crossing(int s, int k, int what) {
        if (lacks(s) || k < 0 || k >= word(s).size() || what < 0 || what > 4) {
            return 0;
        }
        return crossings(s).get(k)[what];
    }

    /** Labels are handed out down the braid; those at the lower end are then replaced by those of the upper end. */
    private List<int[]> crossings(int s) {
        int n = strands(s);
        int[] label = new int[n + 1];
        for (int p = 1; p <= n; p++) {
            label[p] = p;
        }
        int next = n + 1;
        List<int[]> found = new ArrayList<>();
        for (int l : word(s)) {
            int i = Math.abs(l);
            int upperLeft = label[i];
            int upperRight = label[i + 1];
            label[i] = next++;
            label[i + 1] = next++;
            found.add(l > 0 ? new int[] {upperLeft, label[i], label[i + 1], upperRight, 1}
                : new int[] {upperRight, upperLeft, label[i], label[i + 1], -1});
        }
        for (int[] crossing : found) {
            for (int place = 0; place < 4; place++) {
                for (int p = 1; p <= n; p++) {
                    if (crossing[place] == label[p]) {
                        crossing[place] = p;
                        break;
                    }
                }
            }
        }
        return found;
    }
}
