/** What the tests of the document's sentences share: errors, rows to begin with, and how an answer is checked. */
abstract class Cases {
    static final int INVALID = -1000001;
    static final int NOT_POSSIBLE = -1000002;
    static final int LIMIT = -1000003;
    static final int NOT_FOUND = -1000004;
    static final int MIN = Integer.MIN_VALUE;
    static final int MAX = Integer.MAX_VALUE;
    static final int[] NO_ROW = {-1, 2, MIN, MAX};

    static final Check check = new Check();

    static void due(String call, long got, long want) {
        check.due(call, got, want);
    }

    static int[] of(int... numbers) {
        return numbers;
    }

    static int[] upTo(int size) {
        int[] numbers = new int[size];
        for (int i = 0; i < size; i++) {
            numbers[i] = i;
        }
        return numbers;
    }

    static int[] times(int size, int number) {
        int[] numbers = new int[size];
        for (int i = 0; i < size; i++) {
            numbers[i] = number;
        }
        return numbers;
    }

    /** Two rows with the bound 4096. */
    static RisingParts rowsOf(int[] zero, int[] one) {
        RisingParts rows = new RisingParts();
        fill(rows, 0, zero);
        fill(rows, 1, one);
        return rows;
    }

    static void fill(RisingParts rows, int row, int[] numbers) {
        rows.bound(row, 4096);
        for (int number : numbers) {
            rows.add(row, number);
        }
    }

    /** An object whose row 0 has these numbers and this bound. */
    static RisingParts rowOfBound(int bound, int... numbers) {
        RisingParts rows = rowsOf(numbers, of());
        rows.bound(0, bound);
        return rows;
    }

    static void rowIs(RisingParts rows, int row, int... numbers) {
        due("rowOf(" + row + ", 0)", rows.rowOf(row, 0), numbers.length);
        for (int i = 0; i < numbers.length; i++) {
            due("partOf(" + row + ", " + i + ", 0)", rows.partOf(row, i, 0), numbers[i]);
        }
    }

    static void write(RisingParts rows, String text) {
        rows.clearText();
        for (int i = 0; i < text.length(); i++) {
            rows.type(text.charAt(i));
        }
    }

    /** Leaves so many states in the history, all of them as the rows are now; the rows stay. */
    static void leaveStates(RisingParts rows, int states) {
        int bound = rows.rowOf(0, 1);
        for (int i = 0; i < 4; i++) {
            rows.bound(0, bound);
        }
        for (int left = 3; left >= states; left--) {
            due("undo()", rows.undo(), left);
        }
    }
}
