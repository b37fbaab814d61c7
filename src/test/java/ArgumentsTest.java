/** The range that each promise names for each argument, and the state it asks for: at the ends and beside them. */
public final class ArgumentsTest extends Cases {
    private interface Asked {
        long of(int value);
    }

    public static void main(String[] args) {
        rowIs0Or1();
        addNumber();
        dropIndex();
        dropFirstAndBetween();
        boundValue();
        joinOnce();
        joinToTheLimit();
        joinOnceToTheLimit();
        joinTakesTheGreaterBound();
        exchangeHowMany();
        clearHowMany();
        rowOfWhat();
        unlikeNumbers();
        greatestDifference();
        upperBitPlace();
        partOfIndex();
        partOfWhat();
        sampleZeros();
        sampleIndex();
        lowerBitsWord();
        lowerBitsFromTheEnd();
        nextX();
        nextWhat();
        belowX();
        commonWhat();
        commonOfNone();
        leastDifference();
        perNumberFrom1On();
        bestBoundWhat();
        bestBoundEnds();
        gapsFrom2On();
        gapOfIndex();
        gapOfWhat();
        countWhat();
        undoOfNone();
        typeCharacter();
        clearTextLengths();
        faultWhat();
        faultOfNone();
        readOfAFault();
        check.end();
    }

    /** Asks for 0 up to the greatest, which are no wrong arguments, and for those beside them, which are. */
    private static void upTo(String call, int greatest, Asked asked) {
        for (int value = 0; value <= greatest; value++) {
            long answer = asked.of(value);
            due(call + " takes " + value, answer == INVALID ? 0 : 1, 1);
        }
        for (int value : of(-1, -2, greatest + 1, greatest + 2, MIN, MAX)) {
            due(call + " of " + value, asked.of(value), INVALID);
        }
    }

    private static RisingParts small() {
        RisingParts rows = rowsOf(of(1, 5, 9), of(5, 6, 8));
        write(rows, "7,8");
        return rows;
    }

    private static void rowIs0Or1() {
        check.about("row: 0 or 1");
        upTo("add(row, 7)", 1, row -> small().add(row, 7));
        upTo("drop(row, 0)", 1, row -> small().drop(row, 0));
        upTo("bound(row, 10)", 1, row -> small().bound(row, 10));
        upTo("clear(row)", 1, row -> small().clear(row));
        upTo("rowOf(row, 0)", 1, row -> small().rowOf(row, 0));
        upTo("upperBit(row, 0)", 1, row -> small().upperBit(row, 0));
        upTo("partOf(row, 0, 0)", 1, row -> small().partOf(row, 0, 0));
        upTo("sample(row, 0, 0)", 1, row -> small().sample(row, 0, 0));
        upTo("lowerBits(row, 0)", 1, row -> small().lowerBits(row, 0));
        upTo("next(row, 5, 0)", 1, row -> small().next(row, 5, 0));
        upTo("below(row, 7)", 1, row -> small().below(row, 7));
        upTo("perNumber(row)", 1, row -> small().perNumber(row));
        upTo("bestBound(row, 0)", 1, row -> small().bestBound(row, 0));
        upTo("gapOf(row, 0, 0)", 1, row -> small().gapOf(row, 0, 0));
        upTo("fault(row, 0)", 1, row -> small().fault(row, 0));
        upTo("read(row)", 1, row -> small().read(row));
    }

    private static void addNumber() {
        check.about("add: number: 0 to 4095");
        for (int row = 0; row < 2; row++) {
            RisingParts rows = rowsOf(of(), of());
            due("add(row, 0)", rows.add(row, 0), 0);
            due("add(row, 1)", rows.add(row, 1), 1);
            due("add(row, 4094)", rows.add(row, 4094), 2);
            due("add(row, 4095)", rows.add(row, 4095), 3);
            due("add(row, 4096)", rows.add(row, 4096), INVALID);
            due("add(row, 4097)", rows.add(row, 4097), INVALID);
            due("add(row, max)", rows.add(row, MAX), INVALID);
            due("add(row, -1)", rows.add(row, -1), INVALID);
            due("add(row, min)", rows.add(row, MIN), INVALID);
            rowIs(rows, row, 0, 1, 4094, 4095);
        }
    }

    private static void dropIndex() {
        check.about("drop: index: 0 or more; NOT_POSSIBLE if there are not so many");
        for (int size : of(0, 1, 2, 39, 40)) {
            for (int row = 0; row < 2; row++) {
                RisingParts rows = rowsOf(row == 0 ? upTo(size) : of(7), row == 1 ? upTo(size) : of(7));
                due("drop(row, -1) of " + size, rows.drop(row, -1), INVALID);
                due("drop(row, min) of " + size, rows.drop(row, MIN), INVALID);
                due("drop(row, max) of " + size, rows.drop(row, MAX), NOT_POSSIBLE);
                due("drop(row, size + 1) of " + size, rows.drop(row, size + 1), NOT_POSSIBLE);
                due("drop(row, size) of " + size, rows.drop(row, size), NOT_POSSIBLE);
                if (size > 0) {
                    due("drop(row, size - 1) of " + size, rows.drop(row, size - 1), size - 1);
                    rowIs(rows, row, upTo(size - 1));
                    due("drop(row, size - 1) again of " + size, rows.drop(row, size - 1), NOT_POSSIBLE);
                }
                rowIs(rows, 1 - row, 7);
            }
        }
    }

    private static void dropFirstAndBetween() {
        check.about("drop: Returns the number");
        for (int row = 0; row < 2; row++) {
            RisingParts rows = rowsOf(of(2, 4, 4, 5, 9), of(2, 4, 4, 5, 9));
            due("drop(row, 0)", rows.drop(row, 0), 2);
            rowIs(rows, row, 4, 4, 5, 9);
            due("drop(row, 1)", rows.drop(row, 1), 4);
            rowIs(rows, row, 4, 5, 9);
            due("drop(row, 1) again", rows.drop(row, 1), 5);
            rowIs(rows, row, 4, 9);
            rowIs(rows, 1 - row, 2, 4, 4, 5, 9);
        }
        RisingParts full = rowsOf(upTo(40), of());
        due("drop(0, 38) of 40", full.drop(0, 38), 38);
        due("the last one then", full.partOf(0, 38, 0), 39);
        due("drop(0, 0) of 39", full.drop(0, 0), 0);
        due("the first one then", full.partOf(0, 0, 0), 1);
        due("the last one then", full.partOf(0, 37, 0), 39);
    }

    private static void boundValue() {
        check.about("bound: Returns what it was; NOT_POSSIBLE if there is a number that is not below it");
        for (int row = 0; row < 2; row++) {
            RisingParts rows = rowsOf(of(3, 70, 70), of(3, 70, 70));
            due("bound(row, 69)", rows.bound(row, 69), NOT_POSSIBLE);
            due("bound(row, 70)", rows.bound(row, 70), NOT_POSSIBLE);
            due("bound(row, 71)", rows.bound(row, 71), 4096);
            due("bound(row, 72)", rows.bound(row, 72), 71);
            due("bound(row, 4)", rows.bound(row, 4), NOT_POSSIBLE);
            due("bound(row, 2)", rows.bound(row, 2), NOT_POSSIBLE);
            due("bound(row, 1)", rows.bound(row, 1), INVALID);
            due("bound(row, 4096)", rows.bound(row, 4096), 72);
            due("bound(row, 4097)", rows.bound(row, 4097), INVALID);
            rows.clear(row);
            due("bound(row, 2) of none", rows.bound(row, 2), 4096);
            due("rowOf(other, 1)", rows.rowOf(1 - row, 1), 4096);
        }
    }

    private static void joinOnce() {
        check.about("join: once: 0 or 1");
        upTo("join(once)", 1, once -> small().join(once));
        joinIs(0, of(1, 1, 2, 2, 6), of(0, 2, 3, 6, 6), 0, 1, 1, 2, 2, 2, 3, 6, 6, 6);
        joinIs(1, of(1, 1, 2, 2, 6), of(0, 2, 3, 6, 6), 0, 1, 2, 3, 6);
        // What one row alone has twice is there once, too.
        joinIs(1, of(1, 1, 4, 4, 7), of(), 1, 4, 7);
        joinIs(1, of(), of(1, 4, 4), 1, 4);
        joinIs(0, of(), of(1, 4, 4), 1, 4, 4);
        joinIs(0, of(1, 4, 4), of(), 1, 4, 4);
    }

    private static void joinIs(int once, int[] zero, int[] one, int... joined) {
        RisingParts rows = rowsOf(zero, one);
        due("join(" + once + ")", rows.join(once), joined.length);
        rowIs(rows, 0, joined);
        rowIs(rows, 1, one);
    }

    private static void joinToTheLimit() {
        check.about("join(0): LIMIT_REACHED if there would be more than 40");
        for (int size : of(0, 1, 20, 39, 40)) {
            for (int sum = 39; sum <= 41; sum++) {
                if (sum - size >= 0 && sum - size <= 40) {
                    // All numbers are alike: those that would be there twice count twice.
                    RisingParts rows = rowsOf(times(size, 6), times(sum - size, 6));
                    due("join(0) of " + size + " to " + sum, rows.join(0), sum > 40 ? LIMIT : sum);
                    due("row 0 then", rows.rowOf(0, 0), sum > 40 ? size : sum);
                    due("row 1 then", rows.rowOf(1, 0), sum - size);
                    due("join(1) then", rows.join(1), 1);
                }
            }
        }
    }

    private static void joinOnceToTheLimit() {
        check.about("join(1): LIMIT_REACHED if there would be more than 40");
        for (int unlike = 39; unlike <= 41; unlike++) {
            int[] rest = new int[unlike - 30 + 20];
            for (int i = 0; i < rest.length; i++) {
                rest[i] = 10 + i;
            }
            // 30 numbers, and 20 of these again with those that are new.
            RisingParts rows = rowsOf(upTo(30), rest);
            due("join(0)", rows.join(0), LIMIT);
            due("join(1) to " + unlike, rows.join(1), unlike > 40 ? LIMIT : unlike);
            rowIs(rows, 0, upTo(unlike > 40 ? 30 : unlike));
            rowIs(rows, 1, rest);
        }
        RisingParts alike = rowsOf(times(40, 1), times(40, 2));
        due("join(1) of 80 numbers", alike.join(1), 2);
        rowIs(alike, 0, 1, 2);
        RisingParts second = rowsOf(of(), upTo(40));
        due("join(1) of none and 40", second.join(1), 40);
        due("add(0, 1) then", second.add(0, 1), LIMIT);
    }

    private static void joinTakesTheGreaterBound() {
        check.about("join: the greater one of both bounds; the row 1 stays");
        for (int once = 0; once < 2; once++) {
            for (int other : of(49, 50, 51)) {
                RisingParts rows = rowsOf(of(4), of(4));
                rows.bound(0, 50);
                rows.bound(1, other);
                due("join(" + once + ")", rows.join(once), 2 - once);
                due("bound of row 0", rows.rowOf(0, 1), Math.max(50, other));
                due("bound of row 1", rows.rowOf(1, 1), other);
                rowIs(rows, 1, 4);
            }
        }
        RisingParts none = rowsOf(of(), of());
        none.bound(0, 2);
        due("join(0) of none", none.join(0), 0);
        due("bound of row 0", none.rowOf(0, 1), 4096);
    }

    private static void exchangeHowMany() {
        check.about("exchange: Returns how many numbers the row 0 has then");
        RisingParts rows = rowsOf(of(), upTo(40));
        rows.bound(0, 2);
        due("exchange()", rows.exchange(), 40);
        due("bound of row 0", rows.rowOf(0, 1), 4096);
        due("bound of row 1", rows.rowOf(1, 1), 2);
        due("add(1, 2)", rows.add(1, 2), NOT_POSSIBLE);
        due("add(0, 2)", rows.add(0, 2), LIMIT);
        due("exchange()", rows.exchange(), 0);
        due("exchange()", rows.exchange(), 40);
        due("undo()", rows.undo(), 3);
        due("rowOf(0, 0)", rows.rowOf(0, 0), 0);
        due("rowOf(0, 1)", rows.rowOf(0, 1), 2);
    }

    private static void clearHowMany() {
        check.about("clear: Returns how many there were; its bound stays");
        for (int size : of(0, 1, 39, 40)) {
            for (int row = 0; row < 2; row++) {
                RisingParts rows = rowsOf(upTo(size), upTo(size));
                rows.bound(row, 60);
                due("clear(row) of " + size, rows.clear(row), size);
                due("clear(row) again", rows.clear(row), 0);
                due("rowOf(row, 1)", rows.rowOf(row, 1), 60);
                due("rowOf(other, 0)", rows.rowOf(1 - row, 0), size);
                due("add(row, 59)", rows.add(row, 59), 0);
                due("add(row, 60)", rows.add(row, 60), NOT_POSSIBLE);
            }
        }
    }

    private static void rowOfWhat() {
        check.about("rowOf: what: 0 to 8");
        upTo("rowOf(0, what)", 8, what -> small().rowOf(0, what));
        upTo("rowOf(1, what) of none", 8, what -> new RisingParts().rowOf(1, what));
    }

    private static void unlikeNumbers() {
        check.about("rowOf: 7: unlike numbers");
        due("of none", new RisingParts().rowOf(0, 7), 0);
        due("of one", rowOfBound(9, 0).rowOf(0, 7), 1);
        due("of two alike", rowOfBound(9, 0, 0).rowOf(0, 7), 1);
        due("of two that differ by 1", rowOfBound(9, 0, 1).rowOf(0, 7), 2);
        due("of the last two alike", rowOfBound(9, 0, 1, 1).rowOf(0, 7), 2);
        due("of the first two alike", rowOfBound(9, 0, 0, 1).rowOf(0, 7), 2);
        due("of 40 alike", rowOfBound(9, times(40, 8)).rowOf(0, 7), 1);
        due("of 40 unlike", rowOfBound(40, upTo(40)).rowOf(0, 7), 40);
    }

    private static void greatestDifference() {
        check.about("rowOf: 8: the greatest difference of two numbers one behind the other (0 with fewer than two)");
        due("of none", new RisingParts().rowOf(0, 8), 0);
        due("of one", rowOfBound(4096, 4095).rowOf(0, 8), 0);
        due("of two alike", rowOfBound(4096, 4095, 4095).rowOf(0, 8), 0);
        due("of two", rowOfBound(4096, 0, 4095).rowOf(0, 8), 4095);
        due("of the first two", rowOfBound(99, 5, 15, 24).rowOf(0, 8), 10);
        due("of the last two", rowOfBound(99, 5, 14, 24).rowOf(0, 8), 10);
        due("of both", rowOfBound(99, 5, 15, 25).rowOf(0, 8), 10);
        int[] numbers = upTo(40);
        numbers[39] = 41;
        due("of the last two of 40", rowOfBound(99, numbers).rowOf(0, 8), 3);
    }

    private static void upperBitPlace() {
        check.about("upperBit: place: 0 or more; NOT_FOUND if there are not so many");
        RisingParts rows = rowOfBound(20, 0, 19);
        // Width 3: upper row 10010.
        due("upperBit(0, -1)", rows.upperBit(0, -1), INVALID);
        due("upperBit(0, min)", rows.upperBit(0, MIN), INVALID);
        due("upperBit(0, 0)", rows.upperBit(0, 0), 1);
        due("upperBit(0, 1)", rows.upperBit(0, 1), 0);
        due("upperBit(0, 3)", rows.upperBit(0, 3), 1);
        due("upperBit(0, 4)", rows.upperBit(0, 4), 0);
        due("upperBit(0, 5)", rows.upperBit(0, 5), NOT_FOUND);
        due("upperBit(0, 6)", rows.upperBit(0, 6), NOT_FOUND);
        due("upperBit(0, max)", rows.upperBit(0, MAX), NOT_FOUND);
    }

    private static void partOfIndex() {
        check.about("partOf: index: 0 or more; NOT_FOUND if there are not so many");
        for (int size : of(0, 1, 2, 4, 5, 39, 40)) {
            RisingParts rows = rowOfBound(4096, upTo(size));
            for (int what = 0; what < 5; what++) {
                due("partOf(0, -1, what) of " + size, rows.partOf(0, -1, what), INVALID);
                due("partOf(0, min, what) of " + size, rows.partOf(0, MIN, what), INVALID);
                due("partOf(0, size, what) of " + size, rows.partOf(0, size, what), NOT_FOUND);
                due("partOf(0, size + 1, what) of " + size, rows.partOf(0, size + 1, what), NOT_FOUND);
                due("partOf(0, max, what) of " + size, rows.partOf(0, MAX, what), NOT_FOUND);
            }
            if (size > 0) {
                due("partOf(0, 0, 0) of " + size, rows.partOf(0, 0, 0), 0);
                due("partOf(0, size - 1, 0) of " + size, rows.partOf(0, size - 1, 0), size - 1);
                due("partOf(0, size - 1, 3) of " + size, rows.partOf(0, size - 1, 3), size - 1);
                due("partOf(0, size - 1, 4) of " + size, rows.partOf(0, size - 1, 4), (size - 1) % 4);
            }
        }
    }

    private static void partOfWhat() {
        check.about("partOf: what: 0 to 4");
        upTo("partOf(0, 2, what)", 4, what -> small().partOf(0, 2, what));
    }

    private static void sampleZeros() {
        check.about("sample: zeros: 0 or 1");
        upTo("sample(0, zeros, 0)", 1, zeros -> small().sample(0, zeros, 0));
    }

    private static void sampleIndex() {
        check.about("sample: index: 0 or more; NOT_FOUND if there are not so many");
        // Upper row 111110 0000: five ones and five zeros, so two samples of each.
        RisingParts rows = rowOfBound(5, 0, 0, 0, 0, 0);
        for (int zeros = 0; zeros < 2; zeros++) {
            due("sample(0, " + zeros + ", -1)", rows.sample(0, zeros, -1), INVALID);
            due("sample(0, " + zeros + ", min)", rows.sample(0, zeros, MIN), INVALID);
            due("sample(0, " + zeros + ", 0)", rows.sample(0, zeros, 0), 5 * zeros);
            due("sample(0, " + zeros + ", 1)", rows.sample(0, zeros, 1), 5 * zeros + 4);
            due("sample(0, " + zeros + ", 2)", rows.sample(0, zeros, 2), NOT_FOUND);
            due("sample(0, " + zeros + ", 3)", rows.sample(0, zeros, 3), NOT_FOUND);
            // Four times these would go round to a small number.
            due("sample(0, " + zeros + ", 2^30)", rows.sample(0, zeros, 1 << 30), NOT_FOUND);
            due("sample(0, " + zeros + ", 2^30 + 1)", rows.sample(0, zeros, (1 << 30) + 1), NOT_FOUND);
            due("sample(0, " + zeros + ", max)", rows.sample(0, zeros, MAX), NOT_FOUND);
        }
        due("sample(1, 0, 0) of none", rows.sample(1, 0, 0), NOT_FOUND);
        due("sample(1, 1, 0) of none", rows.sample(1, 1, 0), 0);
    }

    private static void lowerBitsWord() {
        check.about("lowerBits: word: 0 or more; NOT_FOUND if there is no bit from there on");
        // With a width of 1 there are as many lower bits as numbers; all of them are 1.
        for (int size : of(1, 2, 31, 32, 33, 39, 40)) {
            RisingParts rows = rowOfBound(size == 1 ? 3 : 2 * size, times(size, 1));
            due("width of " + size, rows.rowOf(0, 2), 1);
            due("lowerBits(0, -1) of " + size, rows.lowerBits(0, -1), INVALID);
            due("lowerBits(0, min) of " + size, rows.lowerBits(0, MIN), INVALID);
            due("lowerBits(0, 0) of " + size, rows.lowerBits(0, 0), (1L << Math.min(32, size)) - 1);
            due("lowerBits(0, 1) of " + size, rows.lowerBits(0, 1), size > 32 ? (1L << (size - 32)) - 1 : NOT_FOUND);
            due("lowerBits(0, 2) of " + size, rows.lowerBits(0, 2), NOT_FOUND);
            // 32 times these would go round to a small number.
            for (int word : of(1 << 26, 1 << 27, (1 << 27) + 1, 1 << 30, MAX)) {
                due("lowerBits(0, " + word + ") of " + size, rows.lowerBits(0, word), NOT_FOUND);
            }
        }
        due("lowerBits(0, 0) of none", new RisingParts().lowerBits(0, 0), NOT_FOUND);
        due("lowerBits(0, 0) of width 0", rowOfBound(7, 1, 2, 3, 6).lowerBits(0, 0), NOT_FOUND);
    }

    private static void lowerBitsFromTheEnd() {
        check.about("lowerBits: the bits from 32 times word on; bits beyond the end are 0");
        // Width 6: 240 lower bits, that is seven words and a half; many a lower part lies over the end of a word.
        RisingParts rows = rowOfBound(4096, times(40, 63));
        due("width", rows.rowOf(0, 2), 6);
        for (int word = 0; word < 7; word++) {
            due("lowerBits(0, " + word + ") of ones", rows.lowerBits(0, word), 0xFFFFFFFFL);
        }
        due("lowerBits(0, 7) of ones", rows.lowerBits(0, 7), 0xFFFFL);
        due("lowerBits(0, 8) of ones", rows.lowerBits(0, 8), NOT_FOUND);
        // Width 10: the number 3 begins at the bit 30, and all its bits but two lie in the second word.
        RisingParts over = rowOfBound(4096, 0, 0, 0, 0x3A5);
        due("width", over.rowOf(0, 2), 10);
        due("lowerBits(0, 0) of the last", over.lowerBits(0, 0), 0x40000000L);
        due("lowerBits(0, 1) of the last", over.lowerBits(0, 1), 0xE9L);
        due("lowerBits(0, 2) of the last", over.lowerBits(0, 2), NOT_FOUND);
        // Width 8: the number 3 ends with the first word, and the number 4 begins the second one.
        RisingParts beside = rowOfBound(1280, 1, 2, 3, 0x80, 0xFF);
        due("width", beside.rowOf(0, 2), 8);
        due("lowerBits(0, 0) beside", beside.lowerBits(0, 0), 0x80030201L);
        due("lowerBits(0, 1) beside", beside.lowerBits(0, 1), 0xFFL);
        due("lowerBits(0, 2) beside", beside.lowerBits(0, 2), NOT_FOUND);
    }

    private static void nextX() {
        check.about("next: x: 0 to 4095");
        RisingParts rows = rowsOf(of(0, 1, 4094, 4095), of(4094));
        int[] asked = {0, 1, 2, 4094, 4095};
        int[] found = {0, 1, 2, 2, 3};
        for (int i = 0; i < asked.length; i++) {
            due("next(0, " + asked[i] + ", 1)", rows.next(0, asked[i], 1), found[i]);
        }
        due("next(1, 4094, 0)", rows.next(1, 4094, 0), 4094);
        due("next(1, 4095, 0)", rows.next(1, 4095, 0), NOT_FOUND);
        for (int what = 0; what < 3; what++) {
            due("next(0, -1, " + what + ")", rows.next(0, -1, what), INVALID);
            due("next(0, min, " + what + ")", rows.next(0, MIN, what), INVALID);
            due("next(0, 4096, " + what + ")", rows.next(0, 4096, what), INVALID);
            due("next(0, max, " + what + ")", rows.next(0, MAX, what), INVALID);
        }
    }

    private static void nextWhat() {
        check.about("next: what: 0 to 2");
        upTo("next(0, 9, what)", 2, what -> small().next(0, 9, what));
        upTo("next(0, 10, what) of none", 2, what -> small().next(0, 10, what));
    }

    private static void belowX() {
        check.about("below: x: 0 to 4096");
        RisingParts rows = rowsOf(of(0, 7, 7, 4095), of());
        int[] asked = {0, 1, 6, 7, 8, 4094, 4095, 4096};
        int[] less = {0, 1, 1, 1, 3, 3, 3, 4};
        for (int i = 0; i < asked.length; i++) {
            due("below(0, " + asked[i] + ")", rows.below(0, asked[i]), less[i]);
            due("below(1, " + asked[i] + ") of none", rows.below(1, asked[i]), 0);
        }
        for (int x : of(-1, MIN, 4097, MAX)) {
            due("below(0, " + x + ")", rows.below(0, x), INVALID);
            due("below(1, " + x + ") of none", rows.below(1, x), INVALID);
        }
        rows.bound(1, 2);
        rows.add(1, 1);
        due("below(1, 2) at the bound", rows.below(1, 2), 1);
        due("below(1, 4096) above the bound", rows.below(1, 4096), 1);
        RisingParts full = rowsOf(upTo(40), of());
        due("below(0, 39) of 40", full.below(0, 39), 39);
        due("below(0, 40) of 40", full.below(0, 40), 40);
    }

    private static void commonWhat() {
        check.about("common: what: 0 to 4");
        upTo("common(what)", 4, what -> small().common(what));
        upTo("common(what) of none", 4, what -> new RisingParts().common(what));
    }

    private static void commonIs(int[] zero, int[] one, int... answers) {
        for (int what = 0; what < answers.length; what++) {
            due("common(" + what + ")", rowsOf(zero, one).common(what), answers[what]);
        }
    }

    private static void commonOfNone() {
        check.about("common: NOT_FOUND for 3 and 4 if there is none");
        commonIs(of(), of(), 0, 0, 0, NOT_FOUND, NOT_FOUND);
        commonIs(of(4), of(), 0, 0, 1, NOT_FOUND, NOT_FOUND);
        commonIs(of(), of(4), 0, 0, 0, NOT_FOUND, NOT_FOUND);
        commonIs(of(4), of(3), 0, 0, 1, NOT_FOUND, 1);
        commonIs(of(4), of(4), 1, 1, 0, 4, 0);
        commonIs(of(4), of(5), 0, 0, 1, NOT_FOUND, 1);
        commonIs(of(0), of(0), 1, 1, 0, 0, 0);
        commonIs(of(4095), of(4095), 1, 1, 0, 4095, 0);
        commonIs(times(40, 3), times(40, 3), 1, 40, 0, 3, 0);
        commonIs(times(40, 3), times(39, 3), 1, 39, 0, 3, 0);
        commonIs(times(39, 3), times(40, 3), 1, 39, 0, 3, 0);
        commonIs(upTo(40), upTo(40), 40, 40, 0, 0, 0);
        commonIs(upTo(40), of(39), 1, 1, 39, 39, 0);
        commonIs(upTo(40), of(40), 0, 0, 40, NOT_FOUND, 1);
    }

    private static void leastDifference() {
        check.about("common: 4: the least difference of a number of one row and one of the other");
        commonIs(of(0), of(4095), 0, 0, 1, NOT_FOUND, 4095);
        commonIs(of(4095), of(0), 0, 0, 1, NOT_FOUND, 4095);
        commonIs(of(0), of(4094), 0, 0, 1, NOT_FOUND, 4094);
        commonIs(of(1, 2, 90), of(10, 95), 0, 0, 3, NOT_FOUND, 5);
        commonIs(of(10, 95), of(1, 2, 90), 0, 0, 2, NOT_FOUND, 5);
        commonIs(of(10, 11), of(14, 20), 0, 0, 2, NOT_FOUND, 3);
    }

    private static void perNumberFrom1On() {
        check.about("perNumber: NOT_FOUND if the row is empty");
        RisingParts rows = rowsOf(of(), of(0));
        due("perNumber(0) of none", rows.perNumber(0), NOT_FOUND);
        // One number below 4096: 2 upper bits and 12 lower ones.
        due("perNumber(1) of one", rows.perNumber(1), Float.floatToIntBits(14.0f));
        rows.add(0, 0);
        due("perNumber(0) of one", rows.perNumber(0), Float.floatToIntBits(14.0f));
        rows.drop(0, 0);
        due("perNumber(0) of none again", rows.perNumber(0), NOT_FOUND);
        RisingParts full = rowOfBound(2, times(40, 1));
        // The least that there is for each number, and the float does not end: 42 / 40.
        due("perNumber(0) of 40", full.perNumber(0), Float.floatToIntBits(42.0f / 40.0f));
        full.drop(0, 0);
        due("perNumber(0) of 39", full.perNumber(0), Float.floatToIntBits(41.0f / 39.0f));
    }

    private static void bestBoundWhat() {
        check.about("bestBound: what: 0 or 1");
        upTo("bestBound(0, what)", 1, what -> small().bestBound(0, what));
        upTo("bestBound(1, what) of none", 1, what -> new RisingParts().bestBound(1, what));
    }

    private static void bestBoundEnds() {
        check.about("bestBound: 2 to 4096, above all numbers, of several the lowest; NOT_FOUND if the row is empty");
        int[] numbers = {0, 1, 2, 3, 4094, 4095};
        int[] bounds = {2, 2, 3, 4, 4095, 4096};
        int[] sizes = {3, 3, 4, 4, 14, 14};
        for (int i = 0; i < numbers.length; i++) {
            for (int own : of(bounds[i], 4096)) {
                RisingParts rows = rowOfBound(own, numbers[i]);
                due("bestBound(0, 0) of " + numbers[i], rows.bestBound(0, 0), bounds[i]);
                due("bestBound(0, 1) of " + numbers[i], rows.bestBound(0, 1), sizes[i]);
                due("the bound stays", rows.rowOf(0, 1), own);
            }
        }
        RisingParts none = rowsOf(of(), of(1));
        for (int what = 0; what < 2; what++) {
            due("bestBound(0, " + what + ") of none", none.bestBound(0, what), NOT_FOUND);
        }
        bestBoundBesideWidths();
    }

    private static void bestBoundBesideWidths() {
        // At bounds of 3, 6, 12 and so on the width of three numbers grows by 1, and the size stays (or grows).
        for (int greatest : of(4, 5, 6, 10, 11, 12, 22, 23, 24, 3070, 3071, 3072)) {
            RisingParts rows = rowOfBound(4096, 0, 0, greatest);
            due("bestBound(0, 0) of " + greatest, rows.bestBound(0, 0), greatest + 1);
            int size = rows.bestBound(0, 1);
            rows.bound(0, greatest + 1);
            due("bestBound(0, 1) of " + greatest, size, rows.rowOf(0, 4));
            rows.bound(0, greatest + 2);
            due("no less a size above it", rows.rowOf(0, 4) >= size ? 1 : 0, 1);
        }
    }

    private static void gapsFrom2On() {
        check.about("gapOf: two numbers one behind the other that differ by 2 or more");
        for (int row = 0; row < 2; row++) {
            RisingParts rows = rowsOf(of(5), of(5));
            due("gapOf(row, 0, 0) of one", rows.gapOf(row, 0, 0), NOT_FOUND);
            rows.add(row, 5);
            due("gapOf(row, 0, 0) of a difference of 0", rows.gapOf(row, 0, 0), NOT_FOUND);
            rows.add(row, 6);
            due("gapOf(row, 0, 0) of a difference of 1", rows.gapOf(row, 0, 0), NOT_FOUND);
            rows.add(row, 8);
            due("gapOf(row, 0, 0) of a difference of 2", rows.gapOf(row, 0, 0), 2);
            due("gapOf(row, 0, 1) of a difference of 2", rows.gapOf(row, 0, 1), 2);
            rows.add(row, 11);
            due("gapOf(row, 0, 0) of a difference of 3", rows.gapOf(row, 0, 0), 3);
            due("gapOf(row, 0, 1) of a difference of 3", rows.gapOf(row, 0, 1), 3);
            due("gapOf(row, 1, 0)", rows.gapOf(row, 1, 0), 2);
            due("gapOf(row, 2, 0)", rows.gapOf(row, 2, 0), NOT_FOUND);
        }
        due("gapOf(0, 0, 0) of none", new RisingParts().gapOf(0, 0, 0), NOT_FOUND);
        due("gapOf(0, 0, 1) of the ends", rowsOf(of(0, 4095), of()).gapOf(0, 0, 1), 4095);
    }

    private static void gapOfIndex() {
        check.about("gapOf: index: 0 for the first one; NOT_FOUND if there are not so many");
        int[] even = new int[40];
        for (int i = 0; i < 40; i++) {
            even[i] = 2 * i;
        }
        RisingParts rows = rowsOf(even, of(0, 3, 7, 10));
        for (int index : of(0, 1, 37, 38)) {
            due("gapOf(0, " + index + ", 0) of 39", rows.gapOf(0, index, 0), index);
        }
        due("gapOf(0, 39, 0) of 39", rows.gapOf(0, 39, 0), NOT_FOUND);
        due("gapOf(0, 40, 0) of 39", rows.gapOf(0, 40, 0), NOT_FOUND);
        due("gapOf(0, max, 0) of 39", rows.gapOf(0, MAX, 0), NOT_FOUND);
        due("gapOf(0, -1, 0)", rows.gapOf(0, -1, 0), INVALID);
        due("gapOf(0, min, 0)", rows.gapOf(0, MIN, 0), INVALID);
        due("gapOf(1, 0, 0), the greatest", rows.gapOf(1, 0, 0), 1);
        due("gapOf(1, 1, 0), the lower index", rows.gapOf(1, 1, 0), 0);
        due("gapOf(1, 2, 0)", rows.gapOf(1, 2, 0), 2);
        due("gapOf(1, 3, 0)", rows.gapOf(1, 3, 0), NOT_FOUND);
    }

    private static void gapOfWhat() {
        check.about("gapOf: what: 0 or 1");
        upTo("gapOf(0, 1, what)", 1, what -> small().gapOf(0, 1, what));
        upTo("gapOf(0, 2, what)", 1, what -> small().gapOf(0, 2, what));
    }

    private static void countWhat() {
        check.about("count: what: 0 to 3");
        upTo("count(what)", 3, what -> small().count(what));
        RisingParts full = rowsOf(upTo(40), upTo(40));
        due("count(0) of 80", full.count(0), 80);
        due("count(0) of none", new RisingParts().count(0), 0);
        // 40 numbers below 4096: 40 ones, 64 zeros, and 40 times 6 lower bits.
        due("count(1) of 80", full.count(1), 2 * (40 + 64 + 240));
        RisingParts least = new RisingParts();
        least.bound(0, 2);
        least.bound(1, 2);
        due("count(1) of none", least.count(1), 2);
    }

    private static void undoOfNone() {
        check.about("undo: NOT_POSSIBLE if it is empty");
        RisingParts rows = new RisingParts();
        due("undo() of none", rows.undo(), NOT_POSSIBLE);
        rows.add(0, 5);
        due("undo() of one", rows.undo(), 0);
        due("undo() of none again", rows.undo(), NOT_POSSIBLE);
        rows.add(0, 5);
        rows.add(0, 6);
        due("undo() of two", rows.undo(), 1);
        due("undo() of the other one", rows.undo(), 0);
        due("undo() of none at last", rows.undo(), NOT_POSSIBLE);
        rowIs(rows, 0);
    }

    private static void typeCharacter() {
        check.about("type: character: 32 to 126");
        RisingParts rows = new RisingParts();
        due("type(32)", rows.type(32), 1);
        due("type(33)", rows.type(33), 2);
        due("type(125)", rows.type(125), 3);
        due("type(126)", rows.type(126), 4);
        // The last two would be digits if only 16 or 8 bits counted.
        for (int character : of(31, 127, 0, -1, MIN, MAX, 65536 + '7', 256 + '7')) {
            due("type(" + character + ")", rows.type(character), INVALID);
        }
        due("count(3)", rows.count(3), 4);
    }

    private static void clearTextLengths() {
        check.about("clearText: Returns the length it had");
        for (int length : of(0, 1, 59, 60)) {
            RisingParts rows = new RisingParts();
            write(rows, "4".repeat(length));
            due("clearText() of " + length, rows.clearText(), length);
            due("clearText() again", rows.clearText(), 0);
            due("count(3)", rows.count(3), 0);
            due("type('5')", rows.type('5'), 1);
            due("fault(0, 0)", rows.fault(0, 0), NOT_FOUND);
        }
    }

    private static void faultWhat() {
        check.about("fault: what: 0 or 1");
        upTo("fault(0, what)", 1, what -> small().fault(0, what));
        upTo("fault(0, what) of no text", 1, what -> new RisingParts().fault(0, what));
    }

    private static void faultOfNone() {
        check.about("fault: NOT_FOUND if the text has no fault");
        RisingParts rows = new RisingParts();
        rows.bound(1, 7);
        write(rows, "6");
        due("fault(1, 0) of 6", rows.fault(1, 0), NOT_FOUND);
        due("fault(1, 1) of 6", rows.fault(1, 1), NOT_FOUND);
        write(rows, "7");
        due("fault(1, 0) of 7", rows.fault(1, 0), 0);
        due("fault(1, 1) of 7", rows.fault(1, 1), 3);
        due("fault(0, 0) of 7", rows.fault(0, 0), NOT_FOUND);
        rows.exchange();
        due("fault(0, 0) of 7, exchanged", rows.fault(0, 0), 0);
        due("fault(1, 0) of 7, exchanged", rows.fault(1, 0), NOT_FOUND);
    }

    private static void readOfAFault() {
        check.about("read: NOT_POSSIBLE if the text has a fault for this row; the text stays; the bound stays, too");
        RisingParts rows = rowsOf(upTo(40), upTo(40));
        rows.bound(0, 50);
        write(rows, "49,50");
        due("read(0) of a fault for it", rows.read(0), NOT_POSSIBLE);
        due("rowOf(0, 0)", rows.rowOf(0, 0), 40);
        due("read(1) without a fault for it", rows.read(1), 2);
        rowIs(rows, 1, 49, 50);
        due("rowOf(1, 1)", rows.rowOf(1, 1), 4096);
        due("count(3)", rows.count(3), 5);
        write(rows, "49,49");
        due("read(0)", rows.read(0), 2);
        rowIs(rows, 0, 49, 49);
        due("rowOf(0, 1)", rows.rowOf(0, 1), 50);
        due("read(0) again", rows.read(0), 2);
        rowIs(rows, 0, 49, 49);
    }
}
