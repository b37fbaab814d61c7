/** The boundaries that 'Terms' names for finding the next number that is not less, and the work of it. */
public final class NextBoundaryTest extends Cases {
    public static void main(String[] args) {
        upperPart0BeginsAtPlace0();
        lowerPartNotLess();
        zeroComesFirst();
        upperRowEnds();
        zeroBesideSample();
        lastBitIsCounted();
        rowWithoutNumbers();
        xBesideTheBound();
        greatestRow();
        check.end();
    }

    /** The number, its index and the work; NOT_FOUND as the number stands for none. */
    private static void nextIs(RisingParts rows, int x, int number, int index, int work) {
        due("next(0, " + x + ", 0)", rows.next(0, x, 0), number);
        due("next(0, " + x + ", 1)", rows.next(0, x, 1), index);
        due("next(0, " + x + ", 2)", rows.next(0, x, 2), work);
    }

    private static void nextIsNone(RisingParts rows, int x, int work) {
        nextIs(rows, x, NOT_FOUND, NOT_FOUND, work);
    }

    private static void upperPart0BeginsAtPlace0() {
        check.about("if u is above 0, the zero with the number u - 1 is found; the place 0, if u is 0");
        // Width 3, upper row 110 10 10 0: zeros at 2, 4, 6, 7.
        RisingParts rows = rowOfBound(32, 2, 7, 8, 17);
        due("width", rows.rowOf(0, 2), 3);
        nextIs(rows, 0, 2, 0, 1);
        nextIs(rows, 6, 7, 1, 2);
        nextIs(rows, 7, 7, 1, 2);
        nextIs(rows, 8, 8, 2, 1);
        nextIs(rows, 9, 17, 3, 3);
        nextIs(rows, 15, 17, 3, 3);
        nextIs(rows, 16, 17, 3, 2 + 1);
        nextIs(rows, 17, 17, 3, 2 + 1);
        nextIsNone(rows, 18, 2 + 3);
        nextIsNone(rows, 23, 2 + 3);
        nextIsNone(rows, 24, 4 + 1);
    }

    private static void lowerPartNotLess() {
        check.about("the first one of these whose lower part is not less than that of x is the one");
        RisingParts rows = rowOfBound(32, 9, 11, 11, 13);
        nextIs(rows, 8, 9, 0, 1);
        nextIs(rows, 9, 9, 0, 1);
        nextIs(rows, 10, 11, 1, 2);
        nextIs(rows, 11, 11, 1, 2);
        nextIs(rows, 12, 13, 3, 4);
        nextIs(rows, 13, 13, 3, 4);
        nextIsNone(rows, 14, 4 + 3);
        RisingParts narrow = rowOfBound(4, 1, 1, 3);
        // Width 0, upper row 0110010: zeros at 0, 3, 4 and 6.
        due("width", narrow.rowOf(0, 2), 0);
        nextIs(narrow, 0, 1, 0, 2);
        nextIs(narrow, 1, 1, 0, 1);
        nextIs(narrow, 2, 3, 2, 3 + 2);
        nextIs(narrow, 3, 3, 2, 4 + 1);
    }

    private static void zeroComesFirst() {
        check.about("if a zero comes first, the first one behind it is the one");
        // Upper parts 0, 2, 2: its one stands first behind the zero, whatever its lower part is.
        RisingParts rows = rowOfBound(24, 7, 16, 23);
        due("width", rows.rowOf(0, 2), 3);
        nextIs(rows, 7, 7, 0, 1);
        nextIs(rows, 8, 16, 1, 2);
        nextIs(rows, 15, 16, 1, 2);
        nextIs(rows, 16, 16, 1, 1 + 1);
        nextIs(rows, 17, 23, 2, 1 + 2);
        nextIs(rows, 23, 23, 2, 1 + 2);
    }

    private static void upperRowEnds() {
        check.about("if the upper row ends, there is none");
        for (int greatest : of(61, 62)) {
            RisingParts rows = rowOfBound(64, 1, greatest);
            due("next(0, greatest - 1, 0)", rows.next(0, greatest - 1, 0), greatest);
            due("next(0, greatest, 0)", rows.next(0, greatest, 0), greatest);
            due("next(0, greatest, 1)", rows.next(0, greatest, 1), 1);
            due("next(0, greatest + 1, 0)", rows.next(0, greatest + 1, 0), NOT_FOUND);
            due("next(0, greatest + 1, 1)", rows.next(0, greatest + 1, 1), NOT_FOUND);
            // Width 5: the zero 0 stands at 1, the greatest number at 2, the last zero at 3.
            due("next(0, greatest + 1, 2)", rows.next(0, greatest + 1, 2), 0 + 2);
        }
        RisingParts rows = rowOfBound(64, 1, 63);
        nextIs(rows, 63, 63, 1, 1);
        due("next(0, 64, 2)", rows.next(0, 64, 2), NOT_FOUND);
    }

    private static void zeroBesideSample() {
        check.about("The work of this is that of finding the zero");
        // Width 3, each one 2 places behind the one ahead of it: the zero with the number i stands at 2i + 1.
        RisingParts rows = rowOfBound(80, 0, 8, 16, 24, 32, 40, 48, 56, 64, 72);
        due("width", rows.rowOf(0, 2), 3);
        int[] works = {0, 0, 2, 4, 6, 0, 2, 4, 6, 0};
        for (int upper = 0; upper < works.length; upper++) {
            nextIs(rows, 8 * upper, 8 * upper, upper, works[upper] + 1);
            if (upper < 9) {
                nextIs(rows, 8 * upper + 1, 8 * upper + 8, upper + 1, works[upper] + 3);
            }
        }
        nextIsNone(rows, 73, works[9] + 2);
    }

    private static void lastBitIsCounted() {
        check.about("1 for each bit that is looked at then, the last one included");
        RisingParts rows = rowOfBound(3, 0, 2, 2, 2);
        // Upper row 1001110: zeros at 1, 2 and 6.
        nextIs(rows, 0, 0, 0, 1);
        nextIs(rows, 1, 2, 1, 0 + 2);
        nextIs(rows, 2, 2, 1, 1 + 1);
        rows.drop(0, 3);
        rows.drop(0, 2);
        rows.drop(0, 1);
        due("bound(0, 7)", rows.bound(0, 7), 3);
        // One number alone: width 2, upper row 100, the bound less 1 has the upper part 1.
        nextIsNone(rows, 1, 3);
        nextIsNone(rows, 3, 3);
        nextIsNone(rows, 4, 0 + 1);
        nextIsNone(rows, 6, 0 + 1);
    }

    private static void rowWithoutNumbers() {
        check.about("the work of next in a row without numbers");
        for (int bound : of(2, 3, 4, 5, 6, 7, 1024, 4095, 4096)) {
            RisingParts rows = rowOfBound(bound);
            for (int x : of(0, 1, 2, 3, 4, 5, bound - 2, bound - 1)) {
                if (x < bound) {
                    int toZero = x == 0 ? 0 : (x - 1) % 4;
                    nextIsNone(rows, x, toZero + bound - 1 - x);
                }
            }
            for (int what = 0; what < 3; what++) {
                int beyond = bound < 4096 ? NOT_FOUND : INVALID;
                due("next(0, " + bound + ", " + what + ")", rows.next(0, bound, what), beyond);
            }
        }
    }

    private static void xBesideTheBound() {
        check.about("or x is not below the bound (for 2 the work is told if there is none, but x is below the bound)");
        RisingParts rows = rowOfBound(50, 48);
        // Width 5: upper row 010.
        nextIs(rows, 47, 48, 0, 0 + 1);
        nextIs(rows, 48, 48, 0, 0 + 1);
        nextIsNone(rows, 49, 0 + 2);
        for (int what = 0; what < 3; what++) {
            due("next(0, 50, " + what + ")", rows.next(0, 50, what), NOT_FOUND);
            due("next(0, 51, " + what + ")", rows.next(0, 51, what), NOT_FOUND);
        }
        rows.drop(0, 0);
        rows.add(0, 49);
        nextIs(rows, 49, 49, 0, 0 + 1);
        for (int what = 0; what < 3; what++) {
            due("next(0, 50, " + what + ")", rows.next(0, 50, what), NOT_FOUND);
        }
    }

    private static void greatestRow() {
        check.about("the greatest numbers, 40 of them");
        RisingParts rows = rowOfBound(4096, times(40, 4095));
        // Width 6 (4096 / 40 is 102): 63 zeros, 40 ones, and the last zero.
        due("width", rows.rowOf(0, 2), 6);
        nextIs(rows, 0, 4095, 0, 64);
        nextIs(rows, 4031, 4095, 0, 61 % 4 + 2);
        nextIs(rows, 4032, 4095, 0, 62 % 4 + 1);
        nextIs(rows, 4094, 4095, 0, 62 % 4 + 1);
        nextIs(rows, 4095, 4095, 0, 62 % 4 + 1);
        due("next(0, 4096, 0)", rows.next(0, 4096, 0), INVALID);
        RisingParts low = rowOfBound(4096, times(40, 0));
        nextIs(low, 0, 0, 0, 1);
        nextIsNone(low, 1, 40 + 64);
        nextIsNone(low, 64, 0 + 63);
        nextIsNone(low, 4095, 62 % 4 + 1);
    }
}
