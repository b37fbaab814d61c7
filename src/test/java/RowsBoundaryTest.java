/** The boundaries that 'Terms' names for rows, parts and samples: at each one, and right beside it on both sides. */
public final class RowsBoundaryTest extends Cases {
    public static void main(String[] args) {
        lastOf512Calls();
        atMost40Numbers();
        numbersDoNotFall();
        boundFrom2To4096();
        boundIs1024AtFirst();
        numbersAreBelowTheBound();
        numbersAreAtLeast0();
        widthStepsAtPowersOfTwo();
        widthIs0BelowOne();
        widthWithoutNumbers();
        lowerPartIsTheLowestBits();
        upperRowHasThatManyBits();
        onesStandAtTheirPlaces();
        upperRowWithoutNumbers();
        sizeIsUpperRowAndLowerParts();
        everyFourthOneIsSampled();
        everyFourthZeroIsSampled();
        workToOnesBesideSamples();
        check.end();
    }

    private static void lastOf512Calls() {
        check.about("An object is used for at most 512 calls");
        RisingParts rows = new RisingParts();
        for (int call = 1; call <= 508; call += 2) {
            due("add(1, 7), call " + call, rows.add(1, 7), 0);
            due("drop(1, 0), call " + (call + 1), rows.drop(1, 0), 7);
        }
        due("add(1, 8), call 509", rows.add(1, 8), 0);
        due("bestBound(1, 0), call 510", rows.bestBound(1, 0), 9);
        due("undo(), call 511", rows.undo(), 3);
        due("undo(), call 512", rows.undo(), 2);
    }

    private static void atMost40Numbers() {
        check.about("each with at most 40 numbers");
        for (int row = 0; row < 2; row++) {
            RisingParts rows = new RisingParts();
            for (int i = 0; i < 38; i++) {
                rows.add(row, 3 * i);
            }
            due("the 39th of row " + row, rows.add(row, 114), 38);
            due("the 40th of row " + row, rows.add(row, 0), 1);
            due("the 41st of row " + row, rows.add(row, 5), LIMIT);
            due("rowOf(" + row + ", 0)", rows.rowOf(row, 0), 40);
            due("the least of row " + row, rows.partOf(row, 0, 0), 0);
            due("the last of row " + row, rows.partOf(row, 39, 0), 114);
            due("the other row", rows.rowOf(1 - row, 0), 0);
            due("drop(" + row + ", 39)", rows.drop(row, 39), 114);
            due("the 40th again", rows.add(row, 1023), 39);
            due("the 41st again", rows.add(row, 1023), LIMIT);
        }
    }

    private static void numbersDoNotFall() {
        check.about("numbers that do not fall (the same number may come several times), at indexes from 0 on");
        for (int row = 0; row < 2; row++) {
            RisingParts rows = rowsOf(of(10, 20, 20, 30), of(10, 20, 20, 30));
            due("add(" + row + ", 19)", rows.add(row, 19), 1);
            due("add(" + row + ", 20)", rows.add(row, 20), 4);
            due("add(" + row + ", 21)", rows.add(row, 21), 5);
            rowIs(rows, row, 10, 19, 20, 20, 20, 21, 30);
            due("add(" + row + ", 9)", rows.add(row, 9), 0);
            due("add(" + row + ", 30)", rows.add(row, 30), 8);
            due("add(" + row + ", 31)", rows.add(row, 31), 9);
            rowIs(rows, row, 9, 10, 19, 20, 20, 20, 21, 30, 30, 31);
            rowIs(rows, 1 - row, 10, 20, 20, 30);
        }
    }

    private static void boundFrom2To4096() {
        check.about("A row has a bound (2 to 4096)");
        for (int row = 0; row < 2; row++) {
            RisingParts rows = new RisingParts();
            due("bound(" + row + ", 1)", rows.bound(row, 1), INVALID);
            due("bound(" + row + ", 0)", rows.bound(row, 0), INVALID);
            due("bound(" + row + ", 2)", rows.bound(row, 2), 1024);
            due("bound(" + row + ", 3)", rows.bound(row, 3), 2);
            due("bound(" + row + ", 4095)", rows.bound(row, 4095), 3);
            due("bound(" + row + ", 4096)", rows.bound(row, 4096), 4095);
            due("bound(" + row + ", 4097)", rows.bound(row, 4097), INVALID);
            due("rowOf(" + row + ", 1)", rows.rowOf(row, 1), 4096);
            due("rowOf(" + (1 - row) + ", 1)", rows.rowOf(1 - row, 1), 1024);
        }
    }

    private static void boundIs1024AtFirst() {
        check.about("1024 at first");
        for (int row = 0; row < 2; row++) {
            RisingParts rows = new RisingParts();
            due("rowOf(" + row + ", 1)", rows.rowOf(row, 1), 1024);
            due("add(" + row + ", 1024)", rows.add(row, 1024), NOT_POSSIBLE);
            due("add(" + row + ", 1025)", rows.add(row, 1025), NOT_POSSIBLE);
            due("add(" + row + ", 1023)", rows.add(row, 1023), 0);
            due("add(" + row + ", 1022)", rows.add(row, 1022), 0);
        }
    }

    private static void numbersAreBelowTheBound() {
        check.about("all its numbers are below it");
        for (int bound : of(2, 3, 100, 1024, 4094, 4095, 4096)) {
            for (int row = 0; row < 2; row++) {
                RisingParts rows = new RisingParts();
                rows.bound(row, bound);
                due("add(" + row + ", " + (bound - 2) + ")", rows.add(row, bound - 2), 0);
                due("add(" + row + ", " + (bound - 1) + ")", rows.add(row, bound - 1), 1);
                int refused = bound > 4095 ? INVALID : NOT_POSSIBLE;
                due("add(" + row + ", " + bound + ")", rows.add(row, bound), refused);
                refused = bound + 1 > 4095 ? INVALID : NOT_POSSIBLE;
                due("add(" + row + ", " + (bound + 1) + ")", rows.add(row, bound + 1), refused);
                rowIs(rows, row, bound - 2, bound - 1);
                boundBesideTheGreatest(rows, row, bound);
            }
        }
    }

    private static void boundBesideTheGreatest(RisingParts rows, int row, int bound) {
        int refused = bound - 1 < 2 ? INVALID : NOT_POSSIBLE;
        due("bound(" + row + ", " + (bound - 1) + ")", rows.bound(row, bound - 1), refused);
        due("bound(" + row + ", " + bound + ")", rows.bound(row, bound), bound);
        int above = bound + 1 > 4096 ? INVALID : bound;
        due("bound(" + row + ", " + (bound + 1) + ")", rows.bound(row, bound + 1), above);
        rows.drop(row, 1);
        refused = bound - 2 < 2 ? INVALID : NOT_POSSIBLE;
        due("bound(" + row + ", " + (bound - 2) + ") of one", rows.bound(row, bound - 2), refused);
        int before = Math.min(bound + 1, 4096);
        due("bound(" + row + ", " + (bound - 1) + ") of one", rows.bound(row, bound - 1),
            bound - 1 < 2 ? INVALID : before);
    }

    private static void numbersAreAtLeast0() {
        check.about("and at least 0");
        for (int row = 0; row < 2; row++) {
            RisingParts rows = new RisingParts();
            due("add(" + row + ", 1)", rows.add(row, 1), 0);
            due("add(" + row + ", 0)", rows.add(row, 0), 0);
            due("add(" + row + ", -1)", rows.add(row, -1), INVALID);
            rowIs(rows, row, 0, 1);
        }
    }

    private static void widthStepsAtPowersOfTwo() {
        check.about("the greatest w for which 2 to the power of w is at most the bound divided by n, rounded down");
        for (int size = 1; size <= 40; size++) {
            RisingParts rows = rowsOf(times(size, 0), of());
            for (int width = 1; size << width <= 4096; width++) {
                int step = size << width;
                if (step > 2) {
                    rows.bound(0, step - 1);
                    due("width of " + size + " for bound " + (step - 1), rows.rowOf(0, 2), width - 1);
                }
                rows.bound(0, step);
                due("width of " + size + " for bound " + step, rows.rowOf(0, 2), width);
                if (step < 4096) {
                    rows.bound(0, step + 1);
                    due("width of " + size + " for bound " + (step + 1), rows.rowOf(0, 2), width);
                }
            }
        }
    }

    private static void widthIs0BelowOne() {
        check.about("and 0 if that is less than 1");
        for (int size : of(2, 3, 4, 39, 40)) {
            RisingParts rows = rowsOf(times(size, 0), of());
            for (int bound : of(2, Math.max(2, size - 1), size, size + 1)) {
                rows.bound(0, bound);
                due("width of " + size + " for bound " + bound, rows.rowOf(0, 2), 0);
                due("upper row of " + size + " for bound " + bound, rows.rowOf(0, 3), size + bound);
            }
        }
    }

    private static void widthWithoutNumbers() {
        check.about("without numbers it is 0");
        for (int bound : of(2, 3, 4, 1023, 1024, 4095, 4096)) {
            RisingParts rows = rowOfBound(bound);
            due("width of none for bound " + bound, rows.rowOf(0, 2), 0);
            rows.add(0, 0);
            int width = 31 - Integer.numberOfLeadingZeros(bound);
            due("width of one for bound " + bound, rows.rowOf(0, 2), width);
            rows.drop(0, 0);
            due("width of none again for bound " + bound, rows.rowOf(0, 2), 0);
        }
    }

    private static void partsAre(RisingParts rows, int index, int number, int upper, int lower) {
        due("number " + index, rows.partOf(0, index, 0), number);
        due("upper part of " + number, rows.partOf(0, index, 1), upper);
        due("lower part of " + number, rows.partOf(0, index, 2), lower);
        due("place of " + number, rows.partOf(0, index, 3), upper + index);
    }

    private static void lowerPartIsTheLowestBits() {
        check.about("The lower part of a number is its lowest w bits, the upper part is what is left above them");
        for (int width = 2; width <= 9; width++) {
            int power = 1 << width;
            int bound = 6 * power;
            RisingParts rows = rowOfBound(bound, 0, power - 1, power, power + 1, bound - 1);
            due("width", rows.rowOf(0, 2), width);
            partsAre(rows, 0, 0, 0, 0);
            partsAre(rows, 1, power - 1, 0, power - 1);
            partsAre(rows, 2, power, 1, 0);
            partsAre(rows, 3, power + 1, 1, 1);
            partsAre(rows, 4, bound - 1, 5, power - 1);
        }
        RisingParts narrow = rowOfBound(3, 0, 1, 2);
        for (int i = 0; i < 3; i++) {
            partsAre(narrow, i, i, i, 0);
        }
        RisingParts wide = rowOfBound(4096, 4095);
        due("greatest width", wide.rowOf(0, 2), 12);
        partsAre(wide, 0, 4095, 0, 4095);
    }

    private static void upperRowHasThatManyBits() {
        check.about("It has as many bits as n plus the upper part of the bound less 1, plus 1");
        RisingParts rows = rowsOf(of(0, 0, 0), of());
        // The width is 3 for bounds from 24 to 47: the bound less 1 has another upper part behind 24, 32 and 40.
        int[] bounds = {24, 25, 31, 32, 33, 34, 39, 40, 41, 47};
        int[] uppers = {2, 3, 3, 3, 4, 4, 4, 4, 5, 5};
        for (int i = 0; i < bounds.length; i++) {
            rows.bound(0, bounds[i]);
            int length = 3 + uppers[i] + 1;
            due("rowOf(0, 3) for bound " + bounds[i], rows.rowOf(0, 3), length);
            due("the bit ahead of the last for bound " + bounds[i], rows.upperBit(0, length - 2), 0);
            due("the last bit for bound " + bounds[i], rows.upperBit(0, length - 1), 0);
            due("the bit behind the last for bound " + bounds[i], rows.upperBit(0, length), NOT_FOUND);
            due("the one behind that for bound " + bounds[i], rows.upperBit(0, length + 1), NOT_FOUND);
        }
    }

    private static void bitsAre(RisingParts rows, String bits) {
        due("rowOf(0, 3)", rows.rowOf(0, 3), bits.length());
        for (int place = 0; place < bits.length(); place++) {
            due("upperBit(0, " + place + ") of " + bits, rows.upperBit(0, place), bits.charAt(place) - '0');
        }
        due("upperBit(0, " + bits.length() + ") of " + bits, rows.upperBit(0, bits.length()), NOT_FOUND);
    }

    private static void onesStandAtTheirPlaces() {
        check.about("the bit at the place u plus i is 1; all others are 0");
        bitsAre(rowOfBound(64, 0, 0, 7, 8, 15, 16, 63), "111011010000010");
        bitsAre(rowOfBound(2, 0), "10");
        bitsAre(rowOfBound(2, 1), "10");
        bitsAre(rowOfBound(3, 2), "010");
        bitsAre(rowOfBound(3, 1), "100");
        bitsAre(rowOfBound(2, 0, 0), "1100");
        bitsAre(rowOfBound(2, 0, 1), "1010");
        bitsAre(rowOfBound(2, 1, 1), "0110");
        bitsAre(rowOfBound(4096, 4095), "10");
        bitsAre(rowOfBound(4095, 2047), "100");
        bitsAre(rowOfBound(4095, 2048), "010");
        bitsAre(rowOfBound(40, times(40, 39)), "0".repeat(39) + "1".repeat(40) + "0");
        bitsAre(rowOfBound(40, times(40, 0)), "1".repeat(40) + "0".repeat(40));
    }

    private static void upperRowWithoutNumbers() {
        check.about("Without numbers it has 1 bit less than that: as many zeros as the bound less 1");
        for (int bound : of(2, 3, 4, 1023, 1024, 1025, 4095, 4096)) {
            RisingParts rows = rowOfBound(bound);
            due("rowOf(0, 3) for bound " + bound, rows.rowOf(0, 3), bound - 1);
            due("rowOf(0, 4) for bound " + bound, rows.rowOf(0, 4), bound - 1);
            due("upperBit(0, 0) for bound " + bound, rows.upperBit(0, 0), 0);
            due("the last bit for bound " + bound, rows.upperBit(0, bound - 2), 0);
            due("the bit behind the last for bound " + bound, rows.upperBit(0, bound - 1), NOT_FOUND);
            due("the one behind that for bound " + bound, rows.upperBit(0, bound), NOT_FOUND);
            due("zeros sampled for bound " + bound, rows.rowOf(0, 6), (bound - 1 + 3) / 4);
            due("ones sampled for bound " + bound, rows.rowOf(0, 5), 0);
            rows.add(0, bound - 1);
            int width = 31 - Integer.numberOfLeadingZeros(bound);
            due("rowOf(0, 3) of one for bound " + bound, rows.rowOf(0, 3), 1 + ((bound - 1) >> width) + 1);
        }
    }

    private static void sizeIsUpperRowAndLowerParts() {
        check.about("The size of a row is the number of bits of its upper row, and n times w");
        RisingParts rows = rowsOf(times(5, 0), of());
        int[] bounds = {2, 9, 10, 11, 19, 20, 21, 39, 40, 41};
        int[] widths = {0, 0, 1, 1, 1, 2, 2, 2, 3, 3};
        int[] zeros = {2, 9, 5, 6, 10, 5, 6, 10, 5, 6};
        for (int i = 0; i < bounds.length; i++) {
            rows.bound(0, bounds[i]);
            due("rowOf(0, 4) for bound " + bounds[i], rows.rowOf(0, 4), 5 + zeros[i] + 5 * widths[i]);
        }
    }

    private static void everyFourthOneIsSampled() {
        check.about("The samples of ones are the places of the ones with the numbers 0, 4, 8 and so on");
        RisingParts rows = rowOfBound(2);
        for (int size = 0; size <= 40; size++) {
            int samples = (size + 3) / 4;
            due("rowOf(0, 5) of " + size, rows.rowOf(0, 5), samples);
            due("the sample behind the last of " + size, rows.sample(0, 0, samples), NOT_FOUND);
            if (samples > 0) {
                // All numbers are 1: without lower bits one zero stands ahead of the ones.
                int ahead = rows.rowOf(0, 2) == 0 ? 1 : 0;
                due("the last sample of " + size, rows.sample(0, 0, samples - 1), ahead + 4 * (samples - 1));
                due("the first sample of " + size, rows.sample(0, 0, 0), ahead);
            }
            rows.add(0, 1);
        }
    }

    private static void everyFourthZeroIsSampled() {
        check.about("likewise for zeros");
        // With 40 numbers and a bound up to 79 there are as many zeros as the bound, here all behind the 40 ones.
        RisingParts rows = rowsOf(times(40, 0), of());
        for (int zeros = 2; zeros <= 79; zeros++) {
            rows.bound(0, zeros);
            int samples = (zeros + 3) / 4;
            due("rowOf(0, 6) of " + zeros, rows.rowOf(0, 6), samples);
            due("the last sample of " + zeros, rows.sample(0, 1, samples - 1), 40 + 4 * (samples - 1));
            due("the sample behind the last of " + zeros, rows.sample(0, 1, samples), NOT_FOUND);
        }
        // Without numbers there are as many zeros as the bound less 1, from the place 0 on.
        for (int zeros = 1; zeros <= 9; zeros++) {
            rows.bound(1, zeros + 1);
            int samples = (zeros + 3) / 4;
            due("rowOf(1, 6) of " + zeros, rows.rowOf(1, 6), samples);
            due("the last sample of none of " + zeros, rows.sample(1, 1, samples - 1), 4 * (samples - 1));
            due("the sample behind the last of none of " + zeros, rows.sample(1, 1, samples), NOT_FOUND);
        }
        zerosBetweenOnes();
    }

    private static void zerosBetweenOnes() {
        // Upper row 0111011010000: zeros at 0, 4, 7, 9, 10, 11, 12.
        RisingParts rows = rowOfBound(7, 1, 1, 1, 2, 2, 3);
        bitsAre(rows, "0111011010000");
        due("sample(0, 1, 0)", rows.sample(0, 1, 0), 0);
        due("sample(0, 1, 1)", rows.sample(0, 1, 1), 10);
        due("sample(0, 1, 2)", rows.sample(0, 1, 2), NOT_FOUND);
        due("sample(0, 0, 0)", rows.sample(0, 0, 0), 1);
        due("sample(0, 0, 1)", rows.sample(0, 0, 1), 6);
    }

    private static void workToOnesBesideSamples() {
        check.about("the sample of ones with the greatest number that is not greater; the sample not counted");
        // Width 3, and upper parts that grow by 1: each one stands 2 places behind the one ahead of it.
        RisingParts rows = rowOfBound(72, 0, 8, 16, 24, 32, 40, 48, 56, 64);
        int[] works = {0, 2, 4, 6, 0, 2, 4, 6, 0};
        for (int index = 0; index < works.length; index++) {
            due("work of " + index, rows.partOf(0, index, 4), works[index]);
            due("place of " + index, rows.partOf(0, index, 3), 2 * index);
        }
        RisingParts full = rowOfBound(2, times(40, 1));
        for (int index = 0; index < 40; index++) {
            due("work of " + index + " of 40", full.partOf(0, index, 4), index % 4);
        }
        due("work of 40 of 40", full.partOf(0, 40, 4), NOT_FOUND);
    }
}
