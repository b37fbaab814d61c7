/** Two rows of rising numbers, told as the upper and lower parts in which they could be kept in few bits. */
public final class RisingParts {
    public static final int INVALID_ARGUMENT = -1000001;
    public static final int NOT_POSSIBLE = -1000002;
    public static final int LIMIT_REACHED = -1000003;
    public static final int NOT_FOUND = -1000004;

    private static final int ROW_LIMIT = 40;
    private static final int GREATEST_NUMBER = 4095;
    private static final int LEAST_BOUND = 2;
    private static final int FIRST_BOUND = 1024;
    private static final int GREATEST_BOUND = 4096;
    private static final int GREATEST_WIDTH = 12;
    private static final int SAMPLE_STEP = 4;
    private static final int WORD_BITS = 32;
    private static final int LEAST_GAP = 2;

    private static final int ROW_CELLS = ROW_LIMIT + 2;
    private static final int STATE_CELLS = 2 * ROW_CELLS;
    private static final int STATE_LIMIT = 4;

    private static final int TEXT_LIMIT = 60;
    private static final int LEAST_CHARACTER = 32;
    private static final int GREATEST_CHARACTER = 126;
    private static final int DIGIT_LIMIT = 4;
    private static final int NO_FAULT = -1;
    private static final int REASONS = 4;
    private static final int BAD_CHARACTER = 1;
    private static final int FALLING = 2;
    private static final int NOT_BELOW_BOUND = 3;

    private static final int FLOAT_FRACTION = 1 << 23;
    private static final int FLOAT_BIAS = 127;

    private Row first;
    private Row second;
    private final History history;
    private final Text text;

    public RisingParts() {
        first = new Row();
        second = new Row();
        history = new History();
        text = new Text();
    }

    // ---- rows

    public int add(int row, int number) {
        if (!isRow(row) || !isWithin(number, 0, GREATEST_NUMBER)) {
            return INVALID_ARGUMENT;
        }
        Row changed = rowAt(row);
        if (number >= changed.bound) {
            return NOT_POSSIBLE;
        }
        if (changed.size >= ROW_LIMIT) {
            return LIMIT_REACHED;
        }
        remember();
        return changed.insert(number);
    }

    public int drop(int row, int index) {
        if (!isRow(row) || index < 0) {
            return INVALID_ARGUMENT;
        }
        Row changed = rowAt(row);
        if (index >= changed.size) {
            return NOT_POSSIBLE;
        }
        remember();
        return changed.remove(index);
    }

    public int bound(int row, int bound) {
        if (!isRow(row) || !isWithin(bound, LEAST_BOUND, GREATEST_BOUND)) {
            return INVALID_ARGUMENT;
        }
        Row changed = rowAt(row);
        if (changed.countLess(bound) < changed.size) {
            return NOT_POSSIBLE;
        }
        remember();
        int before = changed.bound;
        changed.bound = bound;
        return before;
    }

    public int join(int once) {
        if (!isWithin(once, 0, 1)) {
            return INVALID_ARGUMENT;
        }
        boolean eachOnce = once == 1;
        if (joinedSize(eachOnce) > ROW_LIMIT) {
            return LIMIT_REACHED;
        }
        remember();
        if (eachOnce) {
            first.dropRepeated();
        }
        for (int i = 0; i < second.size; i++) {
            int number = second.numberAt(i);
            if (!eachOnce || !first.holds(number)) {
                first.insert(number);
            }
        }
        first.bound = Math.max(first.bound, second.bound);
        return first.size;
    }

    public int exchange() {
        remember();
        Row other = first;
        first = second;
        second = other;
        return first.size;
    }

    public int clear(int row) {
        if (!isRow(row)) {
            return INVALID_ARGUMENT;
        }
        Row changed = rowAt(row);
        remember();
        int before = changed.size;
        changed.size = 0;
        return before;
    }

    // ---- parts

    public int rowOf(int row, int what) {
        if (!isRow(row)) {
            return INVALID_ARGUMENT;
        }
        Row asked = rowAt(row);
        switch (what) {
            case 0: return asked.size;
            case 1: return asked.bound;
            case 2: return asked.width();
            case 3: return asked.upperLength();
            case 4: return asked.bits();
            case 5: return samplesOf(asked.size);
            case 6: return samplesOf(asked.zeros());
            case 7: return asked.unlike();
            case 8: return asked.greatestStep();
            default: return INVALID_ARGUMENT;
        }
    }

    public int upperBit(int row, int place) {
        if (!isRow(row) || place < 0) {
            return INVALID_ARGUMENT;
        }
        Row asked = rowAt(row);
        if (place >= asked.upperLength()) {
            return NOT_FOUND;
        }
        return asked.hasOneAt(place) ? 1 : 0;
    }

    public int partOf(int row, int index, int what) {
        if (!isRow(row) || index < 0 || !isWithin(what, 0, 4)) {
            return INVALID_ARGUMENT;
        }
        Row asked = rowAt(row);
        if (index >= asked.size) {
            return NOT_FOUND;
        }
        int number = asked.numberAt(index);
        switch (what) {
            case 0: return number;
            case 1: return asked.upperPart(number);
            case 2: return asked.lowerPart(number);
            case 3: return asked.placeOfOne(index);
            default: return asked.placeOfOne(index) - asked.placeOfOne(sampledAhead(index));
        }
    }

    public int sample(int row, int zeros, int index) {
        if (!isRow(row) || !isWithin(zeros, 0, 1) || index < 0) {
            return INVALID_ARGUMENT;
        }
        Row asked = rowAt(row);
        if (index >= samplesOf(zeros == 1 ? asked.zeros() : asked.size)) {
            return NOT_FOUND;
        }
        int sampled = SAMPLE_STEP * index;
        return zeros == 1 ? asked.placeOfZero(sampled) : asked.placeOfOne(sampled);
    }

    public long lowerBits(int row, int word) {
        if (!isRow(row) || word < 0) {
            return INVALID_ARGUMENT;
        }
        Row asked = rowAt(row);
        // As long: 32 times a great word would not fit in an int.
        if ((long) WORD_BITS * word >= asked.size * asked.width()) {
            return NOT_FOUND;
        }
        return asked.lowerWord(WORD_BITS * word);
    }

    // ---- questions

    public int next(int row, int x, int what) {
        if (!isRow(row) || !isWithin(x, 0, GREATEST_NUMBER) || !isWithin(what, 0, 2)) {
            return INVALID_ARGUMENT;
        }
        Row asked = rowAt(row);
        if (x >= asked.bound) {
            return NOT_FOUND;
        }
        if (what == 2) {
            return asked.workToNext(x);
        }
        int index = asked.countLess(x);
        if (index >= asked.size) {
            return NOT_FOUND;
        }
        return what == 0 ? asked.numberAt(index) : index;
    }

    public int below(int row, int x) {
        if (!isRow(row) || !isWithin(x, 0, GREATEST_BOUND)) {
            return INVALID_ARGUMENT;
        }
        return rowAt(row).countLess(x);
    }

    public int common(int what) {
        switch (what) {
            case 0: return commonUnlike();
            case 1: return commonRepeated();
            case 2: return first.unlike() - commonUnlike();
            case 3: return leastCommon();
            case 4: return leastDifference();
            default: return INVALID_ARGUMENT;
        }
    }

    public int perNumber(int row) {
        if (!isRow(row)) {
            return INVALID_ARGUMENT;
        }
        Row asked = rowAt(row);
        if (asked.size < 1) {
            return NOT_FOUND;
        }
        return bitsOfFloat((float) asked.bits() / (float) asked.size);
    }

    public int bestBound(int row, int what) {
        if (!isRow(row) || !isWithin(what, 0, 1)) {
            return INVALID_ARGUMENT;
        }
        Row asked = rowAt(row);
        if (asked.size < 1) {
            return NOT_FOUND;
        }
        int best = lowestBestBound(asked);
        return what == 0 ? best : bitsFor(asked.size, best);
    }

    public int gapOf(int row, int index, int what) {
        if (!isRow(row) || index < 0 || !isWithin(what, 0, 1)) {
            return INVALID_ARGUMENT;
        }
        Row asked = rowAt(row);
        int ahead = asked.indexOfGap(index);
        if (ahead < 0) {
            return NOT_FOUND;
        }
        return what == 0 ? ahead : asked.stepBehind(ahead);
    }

    public int count(int what) {
        switch (what) {
            case 0: return first.size + second.size;
            case 1: return first.bits() + second.bits();
            case 2: return history.size;
            case 3: return text.length;
            default: return INVALID_ARGUMENT;
        }
    }

    public int undo() {
        if (history.size < 1) {
            return NOT_POSSIBLE;
        }
        history.restore(first, second);
        return history.size;
    }

    // ---- texts

    public int type(int character) {
        if (!isWithin(character, LEAST_CHARACTER, GREATEST_CHARACTER)) {
            return INVALID_ARGUMENT;
        }
        if (text.length >= TEXT_LIMIT) {
            return LIMIT_REACHED;
        }
        text.append(character);
        return text.length;
    }

    public int clearText() {
        int before = text.length;
        text.length = 0;
        return before;
    }

    public int fault(int row, int what) {
        if (!isRow(row) || !isWithin(what, 0, 1)) {
            return INVALID_ARGUMENT;
        }
        int found = text.firstFault(rowAt(row).bound);
        if (found == NO_FAULT) {
            return NOT_FOUND;
        }
        return what == 0 ? found / REASONS : found % REASONS;
    }

    public int read(int row) {
        if (!isRow(row)) {
            return INVALID_ARGUMENT;
        }
        Row changed = rowAt(row);
        if (text.firstFault(changed.bound) != NO_FAULT) {
            return NOT_POSSIBLE;
        }
        remember();
        text.fill(changed);
        return changed.size;
    }

    // ---- helpers

    private static boolean isWithin(int value, int least, int greatest) {
        return value >= least && value <= greatest;
    }

    private static boolean isRow(int row) {
        return isWithin(row, 0, 1);
    }

    private Row rowAt(int row) {
        return row == 0 ? first : second;
    }

    private void remember() {
        history.keep(first, second);
    }

    private static int samplesOf(int bits) {
        return (bits + SAMPLE_STEP - 1) / SAMPLE_STEP;
    }

    /** The greatest number of a sampled bit that is not greater than the given number of a bit. */
    private static int sampledAhead(int number) {
        return number - number % SAMPLE_STEP;
    }

    private static int widthFor(int size, int bound) {
        if (size < 1) {
            return 0;
        }
        int share = bound / size;
        int width = 0;
        while (width < GREATEST_WIDTH && (2 << width) <= share) {
            width++;
        }
        return width;
    }

    /** The zeros of the upper row: one behind each upper part, but an empty row lacks the last one. */
    private static int zerosFor(int size, int bound) {
        int greatestUpper = (bound - 1) >> widthFor(size, bound);
        return size < 1 ? greatestUpper : greatestUpper + 1;
    }

    private static int bitsFor(int size, int bound) {
        return size + zerosFor(size, bound) + size * widthFor(size, bound);
    }

    /**
     * The size never falls as the bound grows: with one width the zeros only grow, from size to twice the size,
     * and where the width grows by 1 the lower parts gain the size bits that the zeros lose. So it is the lowest.
     */
    private static int lowestBestBound(Row asked) {
        return Math.max(LEAST_BOUND, asked.numberAt(asked.size - 1) + 1);
    }

    /** The bits of a float from 1 on; halving and the scaling by a power of two are exact. */
    private static int bitsOfFloat(float value) {
        float fraction = value;
        int exponent = 0;
        while (exponent < FLOAT_BIAS && fraction >= 2.0f) {
            fraction = fraction / 2.0f;
            exponent++;
        }
        return (FLOAT_BIAS + exponent) * FLOAT_FRACTION + (int) ((fraction - 1.0f) * (float) FLOAT_FRACTION);
    }

    private int joinedSize(boolean eachOnce) {
        if (eachOnce) {
            return first.unlike() + second.unlike() - commonUnlike();
        }
        return first.size + second.size;
    }

    private int commonUnlike() {
        int found = 0;
        for (int i = 0; i < first.size; i++) {
            if (first.isNew(i) && second.holds(first.numberAt(i))) {
                found++;
            }
        }
        return found;
    }

    private int commonRepeated() {
        int found = 0;
        for (int i = 0; i < first.size; i++) {
            int number = first.numberAt(i);
            if (first.isNew(i)) {
                found += Math.min(first.timesOf(number), second.timesOf(number));
            }
        }
        return found;
    }

    private int leastCommon() {
        for (int i = 0; i < first.size; i++) {
            int number = first.numberAt(i);
            if (second.holds(number)) {
                return number;
            }
        }
        return NOT_FOUND;
    }

    private int leastDifference() {
        if (first.size < 1 || second.size < 1) {
            return NOT_FOUND;
        }
        int least = GREATEST_NUMBER;
        for (int i = 0; i < first.size; i++) {
            for (int k = 0; k < second.size; k++) {
                least = Math.min(least, Math.abs(first.numberAt(i) - second.numberAt(k)));
            }
        }
        return least;
    }

    /** Numbers that do not fall, and their bound. The upper row and the lower parts are told from these alone. */
    private static final class Row {
        private final int[] numbers = new int[ROW_LIMIT];
        private int size = 0;
        private int bound = FIRST_BOUND;

        int numberAt(int index) {
            return index >= 0 && index < size && index < numbers.length ? numbers[index] : 0;
        }

        private void put(int index, int number) {
            if (index >= 0 && index < numbers.length) {
                numbers[index] = number;
            }
        }

        /** Puts a number behind all that are not greater and returns its index. */
        int insert(int number) {
            int index = countLess(number + 1);
            if (size < ROW_LIMIT) {
                for (int i = size; i > index; i--) {
                    put(i, numberAt(i - 1));
                }
                put(index, number);
                size++;
            }
            return index;
        }

        /** Takes the number at an index out and returns it. */
        int remove(int index) {
            int number = numberAt(index);
            if (index >= 0 && index < size) {
                for (int i = index; i < size - 1; i++) {
                    put(i, numberAt(i + 1));
                }
                size--;
            }
            return number;
        }

        void dropRepeated() {
            int kept = 0;
            for (int i = 0; i < size; i++) {
                int number = numberAt(i);
                if (kept == 0 || numberAt(kept - 1) != number) {
                    put(kept, number);
                    kept++;
                }
            }
            size = kept;
        }

        int countLess(int x) {
            int less = 0;
            while (less < size && numberAt(less) < x) {
                less++;
            }
            return less;
        }

        int timesOf(int number) {
            return countLess(number + 1) - countLess(number);
        }

        boolean holds(int number) {
            return timesOf(number) > 0;
        }

        /** Whether the number at an index is unlike the one ahead of it. */
        boolean isNew(int index) {
            return index == 0 || numberAt(index) != numberAt(index - 1);
        }

        int unlike() {
            int found = 0;
            for (int i = 0; i < size; i++) {
                if (isNew(i)) {
                    found++;
                }
            }
            return found;
        }

        int width() {
            return widthFor(size, bound);
        }

        int zeros() {
            return zerosFor(size, bound);
        }

        int upperLength() {
            return size + zeros();
        }

        int bits() {
            return bitsFor(size, bound);
        }

        int upperPart(int number) {
            return number >> width();
        }

        int lowerPart(int number) {
            return number & ((1 << width()) - 1);
        }

        int placeOfOne(int index) {
            return upperPart(numberAt(index)) + index;
        }

        /** Ahead of a zero are the zeros with lower numbers and the ones whose upper part is not above its number. */
        int placeOfZero(int zero) {
            return zero + countLess((zero + 1) << width());
        }

        boolean hasOneAt(int place) {
            for (int i = 0; i < size; i++) {
                if (placeOfOne(i) == place) {
                    return true;
                }
            }
            return false;
        }

        /** The work of finding the next number: behind the zero, bits are looked at as far as its one or the end. */
        int workToNext(int x) {
            int upper = upperPart(x);
            int from = 0;
            int work = 0;
            if (upper > 0) {
                int zero = upper - 1;
                from = placeOfZero(zero) + 1;
                work = placeOfZero(zero) - placeOfZero(sampledAhead(zero));
            }
            int index = countLess(x);
            int end = index < size ? placeOfOne(index) + 1 : upperLength();
            return work + end - from;
        }

        /** The 32 bits of the lower parts from the given bit on. */
        long lowerWord(int from) {
            int width = width();
            long word = 0;
            for (int i = 0; i < size; i++) {
                long lower = lowerPart(numberAt(i));
                int place = i * width - from;
                if (place >= 0 && place < WORD_BITS) {
                    word |= lower << place;
                } else if (place < 0 && place > -width) {
                    word |= lower >> -place;
                }
            }
            // The last lower part may reach into the next word.
            return word & 0xFFFFFFFFL;
        }

        int stepBehind(int index) {
            return index + 1 < size ? numberAt(index + 1) - numberAt(index) : 0;
        }

        int greatestStep() {
            int greatest = 0;
            for (int i = 0; i < size; i++) {
                greatest = Math.max(greatest, stepBehind(i));
            }
            return greatest;
        }

        /** The index of the first number of a gap, told by its place in the order of gaps; -1 if there is none. */
        int indexOfGap(int place) {
            for (int i = 0; i < size; i++) {
                if (stepBehind(i) >= LEAST_GAP && gapsAhead(i) == place) {
                    return i;
                }
            }
            return -1;
        }

        private int gapsAhead(int index) {
            int step = stepBehind(index);
            int ahead = 0;
            for (int i = 0; i < size; i++) {
                if (stepBehind(i) > step || (stepBehind(i) == step && i < index)) {
                    ahead++;
                }
            }
            return ahead;
        }

        void saveTo(int[] cells, int from) {
            if (from < 0 || from > cells.length - ROW_CELLS) {
                return;
            }
            cells[from] = size;
            cells[from + 1] = bound;
            for (int i = 0; i < ROW_LIMIT; i++) {
                cells[from + 2 + i] = numberAt(i);
            }
        }

        void loadFrom(int[] cells, int from) {
            if (from < 0 || from > cells.length - ROW_CELLS) {
                return;
            }
            size = cells[from];
            bound = cells[from + 1];
            for (int i = 0; i < ROW_LIMIT; i++) {
                put(i, cells[from + 2 + i]);
            }
        }
    }

    /** The latest states, in cells that are made once and used in turn. */
    private static final class History {
        private final int[] cells = new int[STATE_LIMIT * STATE_CELLS];
        private int oldest = 0;
        private int size = 0;

        void keep(Row first, Row second) {
            if (size >= STATE_LIMIT) {
                oldest = (oldest + 1) % STATE_LIMIT;
                size--;
            }
            int from = startOf(size);
            first.saveTo(cells, from);
            second.saveTo(cells, from + ROW_CELLS);
            size++;
        }

        void restore(Row first, Row second) {
            if (size < 1) {
                return;
            }
            size--;
            int from = startOf(size);
            first.loadFrom(cells, from);
            second.loadFrom(cells, from + ROW_CELLS);
        }

        private int startOf(int state) {
            return (oldest + state) % STATE_LIMIT * STATE_CELLS;
        }
    }

    /** The text, and what it says as a list. */
    private static final class Text {
        private final int[] characters = new int[TEXT_LIMIT];
        private int length = 0;

        void append(int character) {
            if (length >= 0 && length < characters.length) {
                characters[length] = character;
                length++;
            }
        }

        /** The character at a place; 0, which cannot be typed, at the end. */
        private int characterAt(int place) {
            return place >= 0 && place < length && place < characters.length ? characters[place] : 0;
        }

        private static boolean isDigit(int character) {
            return isWithin(character, '0', '9');
        }

        private boolean endsNumber(int place) {
            return place >= length || characterAt(place) == ',';
        }

        /** The first fault, packed as REASONS times its place, plus its reason; or NO_FAULT. */
        int firstFault(int bound) {
            int before = 0;
            int start = 0;
            int value = 0;
            for (int place = 0; place <= length; place++) {
                int character = characterAt(place);
                int digits = place - start;
                if (isDigit(character)) {
                    boolean isFull = digits == DIGIT_LIMIT || (digits == 1 && value == 0);
                    if (isFull) {
                        return REASONS * place + BAD_CHARACTER;
                    }
                    value = 10 * value + character - '0';
                } else if (digits == 0 || !endsNumber(place)) {
                    return REASONS * place + BAD_CHARACTER;
                } else if (value < before) {
                    return REASONS * start + FALLING;
                } else if (value >= bound) {
                    return REASONS * start + NOT_BELOW_BOUND;
                } else {
                    before = value;
                    value = 0;
                    start = place + 1;
                }
            }
            return NO_FAULT;
        }

        /** Makes the numbers of a row those of the text, which has no fault. */
        void fill(Row row) {
            row.size = 0;
            int value = 0;
            for (int place = 0; place <= length; place++) {
                if (endsNumber(place)) {
                    row.insert(value);
                    value = 0;
                } else {
                    value = 10 * value + characterAt(place) - '0';
                }
            }
        }
    }
}
