import java.util.ArrayDeque;
import java.util.ArrayList;
import java.util.Collections;
import java.util.Deque;
import java.util.List;
import java.util.TreeSet;

/** The document again, slowly and by its words: upper rows and lower bits are laid out and walked bit by bit. */
final class Model {
    static final int INVALID = -1000001;
    static final int NOT_POSSIBLE = -1000002;
    static final int LIMIT = -1000003;
    static final int NOT_FOUND = -1000004;

    private record State(List<Integer> zero, List<Integer> one, int zeroBound, int oneBound) { }

    private final List<List<Integer>> rows = new ArrayList<>(List.of(new ArrayList<>(), new ArrayList<>()));
    private final int[] bounds = {1024, 1024};
    private final Deque<State> history = new ArrayDeque<>();
    private final StringBuilder text = new StringBuilder();

    private static boolean out(int value, int least, int greatest) {
        return value < least || value > greatest;
    }

    private void remember() {
        history.addLast(new State(List.copyOf(rows.get(0)), List.copyOf(rows.get(1)), bounds[0], bounds[1]));
        if (history.size() == 5) {
            history.removeFirst();
        }
    }

    int add(int row, int number) {
        if (out(row, 0, 1) || out(number, 0, 4095)) {
            return INVALID;
        }
        if (number >= bounds[row]) {
            return NOT_POSSIBLE;
        }
        if (rows.get(row).size() == 40) {
            return LIMIT;
        }
        remember();
        rows.get(row).add(number);
        Collections.sort(rows.get(row));
        return rows.get(row).lastIndexOf(number);
    }

    int drop(int row, int index) {
        if (out(row, 0, 1) || index < 0) {
            return INVALID;
        }
        if (index >= rows.get(row).size()) {
            return NOT_POSSIBLE;
        }
        remember();
        return rows.get(row).remove(index);
    }

    int bound(int row, int bound) {
        if (out(row, 0, 1) || out(bound, 2, 4096)) {
            return INVALID;
        }
        for (int number : rows.get(row)) {
            if (number >= bound) {
                return NOT_POSSIBLE;
            }
        }
        remember();
        int before = bounds[row];
        bounds[row] = bound;
        return before;
    }

    int join(int once) {
        if (out(once, 0, 1)) {
            return INVALID;
        }
        List<Integer> joined = new ArrayList<>(rows.get(0));
        joined.addAll(rows.get(1));
        if (once == 1) {
            joined = new ArrayList<>(new TreeSet<>(joined));
        }
        Collections.sort(joined);
        if (joined.size() > 40) {
            return LIMIT;
        }
        remember();
        rows.set(0, joined);
        bounds[0] = Math.max(bounds[0], bounds[1]);
        return joined.size();
    }

    int exchange() {
        remember();
        Collections.swap(rows, 0, 1);
        int other = bounds[0];
        bounds[0] = bounds[1];
        bounds[1] = other;
        return rows.get(0).size();
    }

    int clear(int row) {
        if (out(row, 0, 1)) {
            return INVALID;
        }
        remember();
        int before = rows.get(row).size();
        rows.set(row, new ArrayList<>());
        return before;
    }

    private static int width(int size, int bound) {
        if (size == 0) {
            return 0;
        }
        int width = 0;
        while (Math.pow(2, width + 1) <= Math.floor((double) bound / size)) {
            width++;
        }
        return width;
    }

    private int width(int row) {
        return width(rows.get(row).size(), bounds[row]);
    }

    private int upper(int row, int number) {
        return (int) Math.floor(number / Math.pow(2, width(row)));
    }

    private String upperRow(int row) {
        List<Integer> numbers = rows.get(row);
        int length = numbers.size() + upper(row, bounds[row] - 1) + 1;
        StringBuilder bits = new StringBuilder("0".repeat(numbers.isEmpty() ? length - 1 : length));
        for (int i = 0; i < numbers.size(); i++) {
            bits.setCharAt(upper(row, numbers.get(i)) + i, '1');
        }
        return bits.toString();
    }

    private String lowerRow(int row) {
        StringBuilder bits = new StringBuilder();
        for (int number : rows.get(row)) {
            for (int bit = 0; bit < width(row); bit++) {
                bits.append((number >> bit & 1) == 1 ? '1' : '0');
            }
        }
        return bits.toString();
    }

    private int size(int row) {
        return upperRow(row).length() + rows.get(row).size() * width(row);
    }

    private static List<Integer> places(String bits, char bit) {
        List<Integer> places = new ArrayList<>();
        for (int place = 0; place < bits.length(); place++) {
            if (bits.charAt(place) == bit) {
                places.add(place);
            }
        }
        return places;
    }

    private static List<Integer> samples(String bits, char bit) {
        List<Integer> samples = new ArrayList<>();
        List<Integer> places = places(bits, bit);
        for (int i = 0; i < places.size(); i += 4) {
            samples.add(places.get(i));
        }
        return samples;
    }

    /** The place of a bit found by its number, and the work, by walking from the sample. */
    private static int[] find(String bits, char bit, int number) {
        int place = samples(bits, bit).get(number / 4);
        int work = 0;
        int missing = number % 4;
        while (missing > 0) {
            place++;
            work++;
            if (bits.charAt(place) == bit) {
                missing--;
            }
        }
        return new int[] {place, work};
    }

    int rowOf(int row, int what) {
        if (out(row, 0, 1) || out(what, 0, 8)) {
            return INVALID;
        }
        List<Integer> numbers = rows.get(row);
        int greatest = 0;
        for (int i = 1; i < numbers.size(); i++) {
            greatest = Math.max(greatest, numbers.get(i) - numbers.get(i - 1));
        }
        String bits = upperRow(row);
        return new int[] {numbers.size(), bounds[row], width(row), bits.length(), size(row),
            samples(bits, '1').size(), samples(bits, '0').size(), new TreeSet<>(numbers).size(), greatest}[what];
    }

    int upperBit(int row, int place) {
        if (out(row, 0, 1) || place < 0) {
            return INVALID;
        }
        String bits = upperRow(row);
        return place < bits.length() ? bits.charAt(place) - '0' : NOT_FOUND;
    }

    int partOf(int row, int index, int what) {
        if (out(row, 0, 1) || index < 0 || out(what, 0, 4)) {
            return INVALID;
        }
        if (index >= rows.get(row).size()) {
            return NOT_FOUND;
        }
        int number = rows.get(row).get(index);
        int[] found = find(upperRow(row), '1', index);
        int lower = number - upper(row, number) * (int) Math.pow(2, width(row));
        return new int[] {number, upper(row, number), lower, found[0], found[1]}[what];
    }

    int sample(int row, int zeros, int index) {
        if (out(row, 0, 1) || out(zeros, 0, 1) || index < 0) {
            return INVALID;
        }
        List<Integer> samples = samples(upperRow(row), zeros == 1 ? '0' : '1');
        return index < samples.size() ? samples.get(index) : NOT_FOUND;
    }

    long lowerBits(int row, int word) {
        if (out(row, 0, 1) || word < 0) {
            return INVALID;
        }
        String bits = lowerRow(row);
        if (32L * word >= bits.length()) {
            return NOT_FOUND;
        }
        String rest = bits.substring(32 * word, Math.min(bits.length(), 32 * word + 32));
        return Long.parseLong(new StringBuilder(rest).reverse().toString(), 2);
    }

    int next(int row, int x, int what) {
        if (out(row, 0, 1) || out(x, 0, 4095) || out(what, 0, 2)) {
            return INVALID;
        }
        if (x >= bounds[row]) {
            return NOT_FOUND;
        }
        String bits = upperRow(row);
        int upper = upper(row, x);
        int place = 0;
        int work = 0;
        if (upper > 0) {
            int[] zero = find(bits, '0', upper - 1);
            place = zero[0] + 1;
            work = zero[1];
        }
        int index = bits.substring(0, place).replace("0", "").length();
        boolean beyond = false;
        for (; place < bits.length(); place++) {
            work++;
            if (bits.charAt(place) == '0') {
                beyond = true;
                continue;
            }
            int power = (int) Math.pow(2, width(row));
            int number = rows.get(row).get(index);
            if (beyond || number % power >= x % power) {
                return what == 0 ? number : what == 1 ? index : work;
            }
            index++;
        }
        return what == 2 ? work : NOT_FOUND;
    }

    int below(int row, int x) {
        if (out(row, 0, 1) || out(x, 0, 4096)) {
            return INVALID;
        }
        return (int) rows.get(row).stream().filter(number -> number < x).count();
    }

    int common(int what) {
        if (out(what, 0, 4)) {
            return INVALID;
        }
        TreeSet<Integer> both = new TreeSet<>(rows.get(0));
        both.retainAll(rows.get(1));
        TreeSet<Integer> alone = new TreeSet<>(rows.get(0));
        alone.removeAll(both);
        List<Integer> rest = new ArrayList<>(rows.get(1));
        int repeated = 0;
        int least = Integer.MAX_VALUE;
        for (Integer number : rows.get(0)) {
            repeated += rest.remove(number) ? 1 : 0;
            for (int other : rows.get(1)) {
                least = Math.min(least, Math.abs(number - other));
            }
        }
        switch (what) {
            case 0: return both.size();
            case 1: return repeated;
            case 2: return alone.size();
            case 3: return both.isEmpty() ? NOT_FOUND : both.first();
            default: return least == Integer.MAX_VALUE ? NOT_FOUND : least;
        }
    }

    int perNumber(int row) {
        if (out(row, 0, 1)) {
            return INVALID;
        }
        int numbers = rows.get(row).size();
        return numbers == 0 ? NOT_FOUND : Float.floatToIntBits((float) size(row) / (float) numbers);
    }

    int bestBound(int row, int what) {
        if (out(row, 0, 1) || out(what, 0, 1)) {
            return INVALID;
        }
        List<Integer> numbers = rows.get(row);
        if (numbers.isEmpty()) {
            return NOT_FOUND;
        }
        int best = 0;
        int least = Integer.MAX_VALUE;
        for (int bound = Math.max(2, Collections.max(numbers) + 1); bound <= 4096; bound++) {
            int width = width(numbers.size(), bound);
            int size = numbers.size() + (bound - 1 >> width) + 1 + numbers.size() * width;
            if (size < least) {
                least = size;
                best = bound;
            }
        }
        return what == 0 ? best : least;
    }

    int gapOf(int row, int index, int what) {
        if (out(row, 0, 1) || index < 0 || out(what, 0, 1)) {
            return INVALID;
        }
        List<Integer> numbers = rows.get(row);
        List<int[]> gaps = new ArrayList<>();
        for (int i = 1; i < numbers.size(); i++) {
            if (numbers.get(i) - numbers.get(i - 1) >= 2) {
                gaps.add(new int[] {i - 1, numbers.get(i) - numbers.get(i - 1)});
            }
        }
        gaps.sort((a, b) -> a[1] != b[1] ? b[1] - a[1] : a[0] - b[0]);
        return index < gaps.size() ? gaps.get(index)[what] : NOT_FOUND;
    }

    int count(int what) {
        switch (what) {
            case 0: return rows.get(0).size() + rows.get(1).size();
            case 1: return size(0) + size(1);
            case 2: return history.size();
            case 3: return text.length();
            default: return INVALID;
        }
    }

    int undo() {
        if (history.isEmpty()) {
            return NOT_POSSIBLE;
        }
        State state = history.removeLast();
        rows.set(0, new ArrayList<>(state.zero()));
        rows.set(1, new ArrayList<>(state.one()));
        bounds[0] = state.zeroBound();
        bounds[1] = state.oneBound();
        return history.size();
    }

    int type(int character) {
        if (out(character, 32, 126)) {
            return INVALID;
        }
        if (text.length() == 60) {
            return LIMIT;
        }
        return text.append((char) character).length();
    }

    int clearText() {
        int before = text.length();
        text.setLength(0);
        return before;
    }

    /** Place and reason of the first fault, or null; every beginning of a number is looked at by a pattern. */
    private int[] faultOf(int row) {
        int before = 0;
        int start = 0;
        while (true) {
            int end = start;
            while (text.substring(start, Math.min(end + 1, text.length())).matches("0|[1-9][0-9]{0,3}")
                    && end < text.length()) {
                end++;
            }
            boolean atEnd = end == text.length();
            if (end == start || (!atEnd && text.charAt(end) != ',')) {
                return new int[] {end, 1};
            }
            int number = Integer.parseInt(text.substring(start, end));
            if (number < before) {
                return new int[] {start, 2};
            }
            if (number >= bounds[row]) {
                return new int[] {start, 3};
            }
            if (atEnd) {
                return null;
            }
            before = number;
            start = end + 1;
        }
    }

    int fault(int row, int what) {
        if (out(row, 0, 1) || out(what, 0, 1)) {
            return INVALID;
        }
        int[] fault = faultOf(row);
        return fault == null ? NOT_FOUND : fault[what];
    }

    int read(int row) {
        if (out(row, 0, 1)) {
            return INVALID;
        }
        if (faultOf(row) != null) {
            return NOT_POSSIBLE;
        }
        remember();
        List<Integer> numbers = new ArrayList<>();
        for (String number : text.toString().split(",")) {
            numbers.add(Integer.parseInt(number));
        }
        rows.set(row, numbers);
        return numbers.size();
    }
}
