import java.util.StringJoiner;

/** Words as texts, "4:1 -2 3" being 4 strands and three letters, and what an object tells of a slot as a text. */
final class Words {
    static final int LEAST = Integer.MIN_VALUE;
    static final int MOST = Integer.MAX_VALUE;
    static final int[] NO_SLOTS = {-1, 4, 5, -4, 256, LEAST, MOST};

    private Words() { }

    static void put(BraidWords x, int s, int n, int... letters) {
        x.strands(s, n);
        for (int l : letters) {
            x.letter(s, l);
        }
    }

    static void put(BraidWords x, int s, String word) {
        put(x, s, strandsOf(word), lettersOf(word));
    }

    private static int strandsOf(String word) {
        return Integer.parseInt(word.substring(0, word.indexOf(':')));
    }

    private static int[] lettersOf(String word) {
        String row = word.substring(word.indexOf(':') + 1).trim();
        String[] parts = row.isEmpty() ? new String[0] : row.split(" +");
        int[] letters = new int[parts.length];
        for (int k = 0; k < parts.length; k++) {
            letters[k] = Integer.parseInt(parts[k]);
        }
        return letters;
    }

    /** The text as word() would write it. */
    static String plain(String word) {
        StringJoiner text = new StringJoiner(" ", strandsOf(word) + ":", "");
        for (int l : lettersOf(word)) {
            text.add(String.valueOf(l));
        }
        return text.toString();
    }

    /** So many letters, with one part of a word again and again. */
    static String row(int n, int many, int... part) {
        StringBuilder text = new StringBuilder().append(n).append(':');
        for (int k = 0; k < many; k++) {
            text.append(' ').append(part[k % part.length]);
        }
        return plain(text.toString());
    }

    static String word(BraidWords x, int s) {
        StringJoiner text = new StringJoiner(" ", x.many(s, 0) + ":", "");
        int count = x.many(s, 1);
        for (int k = 0; k < count; k++) {
            text.add(String.valueOf(x.at(s, k)));
        }
        return text.toString();
    }

    static String normalForm(BraidWords x, int s) {
        StringBuilder text = new StringBuilder().append(x.form(s, 0, 0));
        int size = x.length(s);
        int n = x.many(s, 0);
        for (int j = 1; j <= size; j++) {
            text.append(' ');
            for (int p = 1; p <= n; p++) {
                text.append(x.form(s, j, p));
            }
        }
        return text.toString();
    }

    static String labels(BraidWords x, int s, int k) {
        StringJoiner text = new StringJoiner(" ");
        for (int what = 0; what <= 4; what++) {
            text.add(String.valueOf(x.crossing(s, k, what)));
        }
        return text.toString();
    }
}
