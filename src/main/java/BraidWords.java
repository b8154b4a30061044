/** Four slots with braid words: moves on words, their normal forms, and the crossings of their closures. */
public final class BraidWords {
    private static final int SLOTS = 4;
    private static final int MOST_STRANDS = 8;
    private static final int MOST_LETTERS = 32;
    private static final int MOST_CROSSED_PAIRS = MOST_STRANDS * (MOST_STRANDS - 1) / 2;
    private static final int NO_COUNT = -1000;

    private final Word[] words;
    private final NormalForm[] forms;

    public BraidWords() {
        words = new Word[SLOTS];
        forms = new NormalForm[SLOTS];
        for (int s = 0; s < SLOTS; s++) {
            words[s] = new Word();
            forms[s] = new NormalForm();
        }
    }

    public boolean strands(int s, int n) {
        if (!isSlot(s) || n < 1 || n > MOST_STRANDS) {
            return false;
        }
        words[s].clear(n);
        return true;
    }

    public int letter(int s, int l) {
        if (!isSlot(s) || !words[s].append(l)) {
            return -1;
        }
        return words[s].count;
    }

    public boolean copy(int r, int s, boolean back) {
        if (!isSlot(r) || !isSlot(s)) {
            return false;
        }
        words[r].take(words[s]);
        if (back) {
            words[r].invert();
        }
        return true;
    }

    public int many(int s, int what) {
        if (!isSlot(s)) {
            return NO_COUNT;
        }
        Word word = words[s];
        switch (what) {
            case 0: return word.width;
            case 1: return word.count;
            case 2: return word.signSum();
            case 3: return word.components();
            case 4: return word.circles();
            default: return NO_COUNT;
        }
    }

    public int at(int s, int k) {
        return isSlot(s) && words[s].hasLetters(k, 1) ? words[s].letters[k] : 0;
    }

    public int end(int s, int p) {
        return isSlot(s) && words[s].hasPlace(p) ? words[s].endOf(p) : 0;
    }

    public int reduce(int s, boolean ends) {
        if (!isSlot(s)) {
            return 0;
        }
        Word word = words[s];
        int before = word.count;
        word.cancelNeighbours();
        // The ends come last: they may go only when nothing can go elsewhere.
        if (ends) {
            word.cancelEnds();
        }
        return before - word.count;
    }

    public boolean round(int s, boolean back) {
        return isSlot(s) && (back ? words[s].lastToFront() : words[s].firstToBack());
    }

    public boolean exchange(int s, int k) {
        return isSlot(s) && words[s].swapFar(k);
    }

    public boolean pass(int s, int k) {
        return isSlot(s) && words[s].passOver(k);
    }

    public boolean grow(int s, int sign) {
        return isSlot(s) && words[s].addStrand(sign);
    }

    public boolean shrink(int s) {
        return isSlot(s) && words[s].dropStrand();
    }

    public boolean same(int r, int s) {
        return isSlot(r) && isSlot(s) && formOf(r).equalTo(formOf(s));
    }

    public int form(int s, int j, int p) {
        if (!isSlot(s)) {
            return 0;
        }
        NormalForm form = formOf(s);
        return j == 0 ? form.power : form.image(j, p);
    }

    public int length(int s) {
        return isSlot(s) ? formOf(s).size() : -1;
    }

    public int crossing(int s, int k, int what) {
        if (!isSlot(s) || !words[s].hasLetters(k, 1)) {
            return 0;
        }
        if (what == 4) {
            return Integer.signum(words[s].letters[k]);
        }
        return what >= 0 && what < 4 ? words[s].cornerLabel(k, what) : 0;
    }

    private static boolean isSlot(int s) {
        return s >= 0 && s < SLOTS;
    }

    private NormalForm formOf(int s) {
        forms[s].follow(words[s]);
        return forms[s];
    }

    /** A number of strands and letters that are all of values 1 .. width - 1. */
    private static final class Word {
        final int[] letters = new int[MOST_LETTERS];
        int width = 1;
        int count = 0;

        void clear(int strandCount) {
            width = strandCount;
            count = 0;
        }

        boolean append(int letter) {
            // Both bounds are tested without Math.abs, which leaves the least int negative.
            if (letter == 0 || letter <= -width || letter >= width || count >= MOST_LETTERS) {
                return false;
            }
            letters[count] = letter;
            count++;
            return true;
        }

        void take(Word other) {
            width = other.width;
            count = other.count;
            System.arraycopy(other.letters, 0, letters, 0, count);
        }

        boolean equalTo(Word other) {
            if (width != other.width || count != other.count) {
                return false;
            }
            for (int k = 0; k < count; k++) {
                if (letters[k] != other.letters[k]) {
                    return false;
                }
            }
            return true;
        }

        void invert() {
            for (int a = 0, b = count - 1; a <= b; a++, b--) {
                int first = letters[a];
                letters[a] = -letters[b];
                letters[b] = -first;
            }
        }

        boolean hasPlace(int place) {
            return place >= 1 && place <= width;
        }

        /** Whether there are so many letters from letter k on, written so that no k overflows. */
        boolean hasLetters(int k, int many) {
            return k >= 0 && k <= count - many;
        }

        int value(int k) {
            return Math.abs(letters[k]);
        }

        int signSum() {
            int sum = 0;
            for (int k = 0; k < count; k++) {
                sum += Integer.signum(letters[k]);
            }
            return sum;
        }

        int negatives() {
            return (count - signSum()) / 2;
        }

        int endOf(int start) {
            int place = start;
            for (int k = 0; k < count; k++) {
                if (place == value(k)) {
                    place++;
                } else if (place == value(k) + 1) {
                    place--;
                }
            }
            return place;
        }

        int components() {
            int found = 0;
            int seen = 0;
            for (int start = 1; start <= width; start++) {
                if ((seen >> start & 1) == 0) {
                    found++;
                }
                int place = start;
                for (int step = 0; step < width && (seen >> place & 1) == 0; step++) {
                    seen |= 1 << place;
                    place = endOf(place);
                }
            }
            return found;
        }

        int circles() {
            int found = 0;
            for (int place = 1; place <= width; place++) {
                if (!touchedFrom(0, place)) {
                    found++;
                }
            }
            return found;
        }

        boolean touches(int k, int place) {
            return place == value(k) || place == value(k) + 1;
        }

        boolean touchedFrom(int start, int place) {
            for (int k = start; k < count; k++) {
                if (touches(k, place)) {
                    return true;
                }
            }
            return false;
        }

        void cancelNeighbours() {
            int kept = 0;
            for (int k = 0; k < count; k++) {
                if (kept > 0 && letters[kept - 1] == -letters[k]) {
                    kept--;
                } else {
                    letters[kept] = letters[k];
                    kept++;
                }
            }
            count = kept;
        }

        void cancelEnds() {
            int gone = 0;
            while (gone < count - 1 - gone && letters[gone] == -letters[count - 1 - gone]) {
                gone++;
            }
            count -= 2 * gone;
            System.arraycopy(letters, gone, letters, 0, count);
        }

        boolean firstToBack() {
            if (count == 0) {
                return false;
            }
            int first = letters[0];
            System.arraycopy(letters, 1, letters, 0, count - 1);
            letters[count - 1] = first;
            return true;
        }

        boolean lastToFront() {
            if (count == 0) {
                return false;
            }
            int last = letters[count - 1];
            System.arraycopy(letters, 0, letters, 1, count - 1);
            letters[0] = last;
            return true;
        }

        boolean swapFar(int k) {
            if (!hasLetters(k, 2) || Math.abs(value(k) - value(k + 1)) <= 1) {
                return false;
            }
            swapAt(letters, k);
            return true;
        }

        boolean passOver(int k) {
            if (!hasLetters(k, 3) || !canPass(k)) {
                return false;
            }
            int outer = value(k);
            int inner = value(k + 1);
            int first = Integer.signum(letters[k]);
            int middle = Integer.signum(letters[k + 1]);
            int last = Integer.signum(letters[k + 2]);
            letters[k] = last * inner;
            letters[k + 1] = middle * outer;
            letters[k + 2] = first * inner;
            return true;
        }

        private boolean canPass(int k) {
            if (value(k) != value(k + 2) || Math.abs(value(k) - value(k + 1)) != 1) {
                return false;
            }
            boolean outerAgree = letters[k] == letters[k + 2];
            boolean firstAgree = Integer.signum(letters[k]) == Integer.signum(letters[k + 1]);
            return !outerAgree || firstAgree;
        }

        boolean addStrand(int sign) {
            if (sign != 1 && sign != -1 || width >= MOST_STRANDS || count >= MOST_LETTERS) {
                return false;
            }
            letters[count] = sign * width;
            count++;
            width++;
            return true;
        }

        boolean dropStrand() {
            if (count == 0 || value(count - 1) != width - 1) {
                return false;
            }
            for (int k = 0; k < count - 1; k++) {
                if (value(k) == width - 1) {
                    return false;
                }
            }
            count--;
            width--;
            return true;
        }

        /** The label at a place 0 .. 3 of crossing k. */
        int cornerLabel(int k, int what) {
            int left = value(k);
            // Counterclockwise from the upper left; the lower strand of a negative letter comes in one corner before.
            int corner = letters[k] > 0 ? what : (what + 3) % 4;
            switch (corner) {
                case 0: return labelAbove(k, left);
                case 1: return labelBelow(k, left);
                case 2: return labelBelow(k, left + 1);
                default: return labelAbove(k, left + 1);
            }
        }

        private int labelAbove(int k, int place) {
            for (int m = k - 1; m >= 0; m--) {
                if (touches(m, place)) {
                    return madeLabel(m, place);
                }
            }
            return place;
        }

        private int labelBelow(int k, int place) {
            return touchedFrom(k + 1, place) ? madeLabel(k, place) : place;
        }

        private int madeLabel(int k, int place) {
            return width + 1 + 2 * k + (place - value(k));
        }
    }

    /** The normal form of one word; rows[from] .. rows[to - 1] say, for each simple braid, what a place becomes. */
    private static final class NormalForm {
        // Remembered so that asking a form place by place builds it only once.
        private final Word source = new Word();
        private final int[][] rows = new int[MOST_LETTERS][MOST_STRANDS + 1];
        private final int[] startOf = new int[MOST_STRANDS + 1];
        private int from = 0;
        private int to = 0;
        int power = 0;

        /**
         * A letter -i is an inverse TURN and then the simple braid TURN, -i. All the inverse TURNs are taken to the
         * front, and each one mirrors, left to right, every letter that it is taken past.
         */
        void follow(Word word) {
            if (source.equalTo(word)) {
                return;
            }
            source.take(word);
            from = 0;
            to = 0;
            power = -source.negatives();
            boolean mirrored = source.negatives() % 2 == 1;
            for (int k = 0; k < source.count; k++) {
                boolean negative = source.letters[k] < 0;
                if (negative) {
                    mirrored = !mirrored;
                }
                appendSimple(mirrored ? source.width - source.value(k) : source.value(k), negative);
                settle();
            }
        }

        int size() {
            return to - from;
        }

        int image(int j, int p) {
            return j >= 1 && j <= size() && source.hasPlace(p) ? rows[from + j - 1][p] : 0;
        }

        boolean equalTo(NormalForm other) {
            if (source.width != other.source.width || power != other.power || size() != other.size()) {
                return false;
            }
            for (int j = 1; j <= size(); j++) {
                for (int p = 1; p <= source.width; p++) {
                    if (image(j, p) != other.image(j, p)) {
                        return false;
                    }
                }
            }
            return true;
        }

        /** Each letter adds at most one row, so that there are never more rows than letters. */
        private void appendSimple(int i, boolean negative) {
            int n = source.width;
            int[] row = rows[to];
            for (int p = 1; p <= n; p++) {
                row[p] = negative ? n + 1 - p : p;
            }
            swapAt(row, negative ? n - i : i);
            to++;
        }

        /** Only the last row is new: where nothing moves over, the rows before are as they were, and fit. */
        private void settle() {
            for (int j = to - 1; j > from; j--) {
                if (!moveOver(rows[j - 1], rows[j])) {
                    break;
                }
            }
            while (from < to && isTurn(rows[from])) {
                from++;
                power++;
            }
            while (from < to && isNone(rows[to - 1])) {
                to--;
            }
        }

        /** Crossings at the beginning of right go to the end of left while left stays simple: whether any did. */
        private boolean moveOver(int[] left, int[] right) {
            int n = source.width;
            for (int p = 1; p <= n; p++) {
                startOf[left[p]] = p;
            }
            boolean any = false;
            boolean moved = true;
            for (int sweep = 0; sweep <= MOST_CROSSED_PAIRS && moved; sweep++) {
                moved = sweepOver(right);
                any = any || moved;
            }
            for (int q = 1; q <= n; q++) {
                left[startOf[q]] = q;
            }
            return any;
        }

        private boolean sweepOver(int[] right) {
            boolean moved = false;
            for (int i = 1; i < source.width; i++) {
                if (right[i] > right[i + 1] && startOf[i] < startOf[i + 1]) {
                    swapAt(right, i);
                    swapAt(startOf, i);
                    moved = true;
                }
            }
            return moved;
        }

        private boolean isTurn(int[] row) {
            for (int p = 1; p <= source.width; p++) {
                if (row[p] != source.width + 1 - p) {
                    return false;
                }
            }
            return true;
        }

        private boolean isNone(int[] row) {
            for (int p = 1; p <= source.width; p++) {
                if (row[p] != p) {
                    return false;
                }
            }
            return true;
        }
    }

    private static void swapAt(int[] row, int i) {
        int first = row[i];
        row[i] = row[i + 1];
        row[i + 1] = first;
    }
}
