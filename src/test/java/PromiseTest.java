/** Each promise of the document: ordinary inputs, the edges that it names, and wrong inputs. */
public final class PromiseTest extends Cases {
    public static void main(String[] args) {
        constants();
        promise1NewObject();
        promise2Add();
        promise3Drop();
        promise4Bound();
        promise5Join();
        promise5JoinLimits();
        promise6Exchange();
        promise7Clear();
        promise8RowOf();
        promise8Widths();
        promise9UpperBit();
        promise10PartOf();
        promise11Sample();
        promise12LowerBits();
        promise13Next();
        promise13WorkOfNext();
        promise14Below();
        promise15Common();
        promise16PerNumber();
        promise17BestBound();
        promise18GapOf();
        promise19Count();
        promise20Undo();
        promise20UndoOfEachChange();
        promise21Type();
        promise22ClearText();
        promise23Fault();
        promise23OrderOfFaults();
        promise24Read();
        check.end();
    }

    private static void constants() {
        check.about("constants");
        due("INVALID_ARGUMENT", RisingParts.INVALID_ARGUMENT, INVALID);
        due("NOT_POSSIBLE", RisingParts.NOT_POSSIBLE, NOT_POSSIBLE);
        due("LIMIT_REACHED", RisingParts.LIMIT_REACHED, LIMIT);
        due("NOT_FOUND", RisingParts.NOT_FOUND, NOT_FOUND);
    }

    private static void promise1NewObject() {
        check.about("1: a new object");
        RisingParts rows = new RisingParts();
        for (int row = 0; row < 2; row++) {
            rowIs(rows, row);
            due("rowOf(row, 1)", rows.rowOf(row, 1), 1024);
        }
        due("count(2)", rows.count(2), 0);
        due("count(3)", rows.count(3), 0);
        RisingParts other = new RisingParts();
        rows.add(0, 1);
        rows.type('1');
        due("other.count(0)", other.count(0), 0);
        due("other.count(3)", other.count(3), 0);
    }

    private static void promise2Add() {
        check.about("2: add");
        RisingParts rows = new RisingParts();
        due("add(0, 7)", rows.add(0, 7), 0);
        due("add(0, 3)", rows.add(0, 3), 0);
        due("add(0, 7)", rows.add(0, 7), 2);
        due("add(0, 5)", rows.add(0, 5), 1);
        due("add(0, 1023)", rows.add(0, 1023), 4);
        due("add(0, 0)", rows.add(0, 0), 0);
        rowIs(rows, 0, 0, 3, 5, 7, 7, 1023);
        rowIs(rows, 1);
        due("add(0, 1024)", rows.add(0, 1024), NOT_POSSIBLE);
        due("add(0, 4095)", rows.add(0, 4095), NOT_POSSIBLE);
        due("add(0, 4096)", rows.add(0, 4096), INVALID);
        due("add(0, -1)", rows.add(0, -1), INVALID);
        for (int row : NO_ROW) {
            due("add(" + row + ", 1)", rows.add(row, 1), INVALID);
        }
        due("count(2)", rows.count(2), 4);
        for (int i = 6; i < 40; i++) {
            due("add(0, 100)", rows.add(0, 100), i - 1);
        }
        due("add(0, 1) to 40", rows.add(0, 1), LIMIT);
        due("add(0, 1024) to 40", rows.add(0, 1024), NOT_POSSIBLE);
        due("add(0, 4096) to 40", rows.add(0, 4096), INVALID);
        due("rowOf(0, 0)", rows.rowOf(0, 0), 40);
        due("bound(1, 4096)", rows.bound(1, 4096), 1024);
        due("add(1, 4095)", rows.add(1, 4095), 0);
    }

    private static void promise3Drop() {
        check.about("3: drop");
        RisingParts rows = rowsOf(of(1, 4, 4, 9), of(2));
        due("drop(0, 4)", rows.drop(0, 4), NOT_POSSIBLE);
        due("drop(0, max)", rows.drop(0, Integer.MAX_VALUE), NOT_POSSIBLE);
        due("drop(0, -1)", rows.drop(0, -1), INVALID);
        due("drop(0, 1)", rows.drop(0, 1), 4);
        rowIs(rows, 0, 1, 4, 9);
        due("drop(0, 2)", rows.drop(0, 2), 9);
        due("drop(0, 0)", rows.drop(0, 0), 1);
        due("drop(0, 0)", rows.drop(0, 0), 4);
        due("drop(0, 0) of none", rows.drop(0, 0), NOT_POSSIBLE);
        rowIs(rows, 1, 2);
        for (int row : NO_ROW) {
            due("drop(" + row + ", 0)", rows.drop(row, 0), INVALID);
        }
    }

    private static void promise4Bound() {
        check.about("4: bound");
        RisingParts rows = new RisingParts();
        due("bound(0, 2)", rows.bound(0, 2), 1024);
        due("bound(0, 4096)", rows.bound(0, 4096), 2);
        due("bound(0, 1)", rows.bound(0, 1), INVALID);
        due("bound(0, 4097)", rows.bound(0, 4097), INVALID);
        due("rowOf(1, 1)", rows.rowOf(1, 1), 1024);
        rows.add(0, 50);
        rows.add(0, 10);
        due("bound(0, 50)", rows.bound(0, 50), NOT_POSSIBLE);
        due("bound(0, 51)", rows.bound(0, 51), 4096);
        due("bound(0, 10)", rows.bound(0, 10), NOT_POSSIBLE);
        due("rowOf(0, 1)", rows.rowOf(0, 1), 51);
        due("bound(0, 51) again", rows.bound(0, 51), 51);
        for (int row : NO_ROW) {
            due("bound(" + row + ", 9)", rows.bound(row, 9), INVALID);
        }
    }

    private static void promise5Join() {
        check.about("5: join");
        RisingParts rows = rowsOf(of(3, 3, 8), of(1, 3, 8, 8, 20));
        rows.bound(0, 9);
        rows.bound(1, 30);
        due("join(2)", rows.join(2), INVALID);
        due("join(-1)", rows.join(-1), INVALID);
        due("join(0)", rows.join(0), 8);
        rowIs(rows, 0, 1, 3, 3, 3, 8, 8, 8, 20);
        rowIs(rows, 1, 1, 3, 8, 8, 20);
        due("rowOf(0, 1)", rows.rowOf(0, 1), 30);
        due("rowOf(1, 1)", rows.rowOf(1, 1), 30);
        rows.undo();
        due("join(1)", rows.join(1), 4);
        rowIs(rows, 0, 1, 3, 8, 20);
        rowIs(rows, 1, 1, 3, 8, 8, 20);
        due("rowOf(0, 1)", rows.rowOf(0, 1), 30);
        rows.clear(1);
        rows.bound(1, 2);
        due("join(0) with none", rows.join(0), 4);
        due("rowOf(0, 1)", rows.rowOf(0, 1), 30);
    }

    private static void promise5JoinLimits() {
        check.about("5: limits of join");
        RisingParts rows = rowsOf(upTo(39), of(5, 6));
        due("join(0) to 41", rows.join(0), LIMIT);
        due("join(1) to 39", rows.join(1), 39);
        rows.drop(1, 0);
        due("join(0) to 40", rows.join(0), 40);
        rows.add(1, 40);
        rows.add(1, 41);
        due("join(1) to 41", rows.join(1), LIMIT);
        due("rowOf(0, 0)", rows.rowOf(0, 0), 40);
        rows.drop(1, 2);
        due("join(1) to 40", rows.join(1), 40);
        rows.clear(1);
        due("join(0) with none", rows.join(0), 40);
    }

    private static void promise6Exchange() {
        check.about("6: exchange");
        RisingParts rows = rowsOf(of(1, 2, 3), of(7));
        rows.bound(1, 10);
        due("exchange()", rows.exchange(), 1);
        rowIs(rows, 0, 7);
        rowIs(rows, 1, 1, 2, 3);
        due("rowOf(0, 1)", rows.rowOf(0, 1), 10);
        due("rowOf(1, 1)", rows.rowOf(1, 1), 4096);
        due("add(0, 8)", rows.add(0, 8), 1);
        rowIs(rows, 1, 1, 2, 3);
        due("exchange()", rows.exchange(), 3);
        rowIs(rows, 1, 7, 8);
    }

    private static void promise7Clear() {
        check.about("7: clear");
        RisingParts rows = rowsOf(of(1, 2, 3), of(7));
        rows.bound(0, 77);
        due("clear(0)", rows.clear(0), 3);
        rowIs(rows, 0);
        rowIs(rows, 1, 7);
        due("rowOf(0, 1)", rows.rowOf(0, 1), 77);
        due("clear(0) again", rows.clear(0), 0);
        due("count(2)", rows.count(2), 4);
        for (int row : NO_ROW) {
            due("clear(" + row + ")", rows.clear(row), INVALID);
        }
        due("clear(1)", rows.clear(1), 1);
    }

    private static void promise8RowOf() {
        check.about("8: rowOf");
        RisingParts rows = rowsOf(of(3, 4, 7, 13, 14, 15, 21, 43, 43), of());
        rows.bound(0, 72);
        int[] wanted = {9, 72, 3, 9 + 8 + 1, 18 + 27, 3, 3, 8, 22};
        for (int what = 0; what < wanted.length; what++) {
            due("rowOf(0, " + what + ")", rows.rowOf(0, what), wanted[what]);
        }
        rows.bound(1, 18);
        int[] empty = {0, 18, 0, 17, 17, 0, 5, 0, 0};
        for (int what = 0; what < empty.length; what++) {
            due("rowOf(1, " + what + ") of none", rows.rowOf(1, what), empty[what]);
        }
        rows.add(1, 17);
        due("rowOf(1, 8) of one", rows.rowOf(1, 8), 0);
        due("rowOf(0, 9)", rows.rowOf(0, 9), INVALID);
        due("rowOf(0, -1)", rows.rowOf(0, -1), INVALID);
        for (int row : NO_ROW) {
            due("rowOf(" + row + ", 0)", rows.rowOf(row, 0), INVALID);
        }
    }

    private static void promise8Widths() {
        check.about("8: widths");
        RisingParts rows = rowsOf(of(0, 1, 2), of(4095));
        int[] bounds = {3, 5, 6, 11, 12, 23, 24, 3071, 3072, 4096};
        int[] widths = {0, 0, 1, 1, 2, 2, 3, 9, 10, 10};
        for (int i = 0; i < bounds.length; i++) {
            rows.bound(0, bounds[i]);
            due("width for bound " + bounds[i], rows.rowOf(0, 2), widths[i]);
        }
        due("width of 1 for bound 4096", rows.rowOf(1, 2), 12);
        due("upper row of 1 for bound 4096", rows.rowOf(1, 3), 2);
        rows.bound(0, 3);
        rows.add(0, 2);
        due("width where the bound is less than the size", rows.rowOf(0, 2), 0);
        due("upper row there", rows.rowOf(0, 3), 4 + 2 + 1);
    }

    private static void promise9UpperBit() {
        check.about("9: upperBit");
        RisingParts rows = rowsOf(of(0, 5, 6, 6, 15), of());
        rows.bound(0, 20);
        // The width is 2: upper parts 0, 1, 1, 1, 3, and 4 for the bound less 1.
        String bits = "1011100100";
        due("rowOf(0, 3)", rows.rowOf(0, 3), bits.length());
        for (int place = 0; place < bits.length(); place++) {
            due("upperBit(0, " + place + ")", rows.upperBit(0, place), bits.charAt(place) - '0');
        }
        due("upperBit(0, 10)", rows.upperBit(0, 10), NOT_FOUND);
        due("upperBit(0, max)", rows.upperBit(0, Integer.MAX_VALUE), NOT_FOUND);
        due("upperBit(0, -1)", rows.upperBit(0, -1), INVALID);
        due("upperBit(0, min)", rows.upperBit(0, Integer.MIN_VALUE), INVALID);
        due("upperBit(1, 4094) of none", rows.upperBit(1, 4094), 0);
        due("upperBit(1, 4095) of none", rows.upperBit(1, 4095), NOT_FOUND);
        for (int row : NO_ROW) {
            due("upperBit(" + row + ", 0)", rows.upperBit(row, 0), INVALID);
        }
    }

    private static void promise10PartOf() {
        check.about("10: partOf");
        RisingParts rows = rowsOf(of(1, 6, 10, 12, 30, 31), of());
        rows.bound(0, 32);
        int[][] parts = {
            {1, 0, 1, 0, 0}, {6, 1, 2, 2, 2}, {10, 2, 2, 4, 4}, {12, 3, 0, 6, 6}, {30, 7, 2, 11, 0}, {31, 7, 3, 12, 1}};
        for (int index = 0; index < parts.length; index++) {
            for (int what = 0; what < 5; what++) {
                due("partOf(0, " + index + ", " + what + ")", rows.partOf(0, index, what), parts[index][what]);
            }
        }
        due("partOf(0, 6, 0)", rows.partOf(0, 6, 0), NOT_FOUND);
        due("partOf(0, max, 4)", rows.partOf(0, Integer.MAX_VALUE, 4), NOT_FOUND);
        due("partOf(0, 6, 5)", rows.partOf(0, 6, 5), INVALID);
        due("partOf(0, 0, 5)", rows.partOf(0, 0, 5), INVALID);
        due("partOf(0, 0, -1)", rows.partOf(0, 0, -1), INVALID);
        due("partOf(0, -1, 0)", rows.partOf(0, -1, 0), INVALID);
        for (int row : NO_ROW) {
            due("partOf(" + row + ", 0, 0)", rows.partOf(row, 0, 0), INVALID);
        }
    }

    private static void promise11Sample() {
        check.about("11: sample");
        RisingParts rows = rowsOf(of(1, 6, 10, 12, 30, 31), of());
        rows.bound(0, 32);
        // The upper row is 10101010000110.
        due("sample(0, 0, 0)", rows.sample(0, 0, 0), 0);
        due("sample(0, 0, 1)", rows.sample(0, 0, 1), 11);
        due("sample(0, 0, 2)", rows.sample(0, 0, 2), NOT_FOUND);
        due("sample(0, 1, 0)", rows.sample(0, 1, 0), 1);
        due("sample(0, 1, 1)", rows.sample(0, 1, 1), 8);
        due("sample(0, 1, 2)", rows.sample(0, 1, 2), NOT_FOUND);
        due("sample(0, 1, max)", rows.sample(0, 1, Integer.MAX_VALUE), NOT_FOUND);
        due("sample(0, 0, -1)", rows.sample(0, 0, -1), INVALID);
        due("sample(0, 2, 0)", rows.sample(0, 2, 0), INVALID);
        due("sample(0, -1, 0)", rows.sample(0, -1, 0), INVALID);
        due("sample(1, 0, 0) of none", rows.sample(1, 0, 0), NOT_FOUND);
        due("sample(1, 1, 1023) of none", rows.sample(1, 1, 1023), 4092);
        due("sample(1, 1, 1024) of none", rows.sample(1, 1, 1024), NOT_FOUND);
        for (int row : NO_ROW) {
            due("sample(" + row + ", 0, 0)", rows.sample(row, 0, 0), INVALID);
        }
    }

    private static void promise12LowerBits() {
        check.about("12: lowerBits");
        RisingParts rows = rowsOf(of(1, 6, 10, 12, 30, 31), of(1365, 2730, 4095));
        rows.bound(0, 32);
        due("lowerBits(0, 0)", rows.lowerBits(0, 0), 1 + (2 << 2) + (2 << 4) + (2 << 8) + (3 << 10));
        due("lowerBits(0, 1)", rows.lowerBits(0, 1), NOT_FOUND);
        due("lowerBits(0, 2^27)", rows.lowerBits(0, 1 << 27), NOT_FOUND);
        due("lowerBits(0, max)", rows.lowerBits(0, Integer.MAX_VALUE), NOT_FOUND);
        due("lowerBits(0, -1)", rows.lowerBits(0, -1), INVALID);
        // Three lower parts of 10 bits each: 341, 682, 1023.
        due("lowerBits(1, 0)", rows.lowerBits(1, 0), 341 + (682 << 10) + (1023 << 20));
        rows.add(1, 4095);
        due("rowOf(1, 2)", rows.rowOf(1, 2), 10);
        long low = (341 + (682 << 10) + (1023 << 20)) | (3L << 30);
        due("lowerBits(1, 0) of four", rows.lowerBits(1, 0), low);
        due("lowerBits(1, 1) of four", rows.lowerBits(1, 1), 255);
        due("lowerBits(1, 2) of four", rows.lowerBits(1, 2), NOT_FOUND);
        RisingParts full = rowsOf(of(31, 31, 31, 31, 31, 31, 31, 31, 31, 31, 31, 31, 31, 31, 31, 31), of());
        full.bound(0, 64);
        due("lowerBits(0, 0) of 32 bits", full.lowerBits(0, 0), 0xFFFFFFFFL);
        due("lowerBits(0, 1) of 32 bits", full.lowerBits(0, 1), NOT_FOUND);
        due("lowerBits(1, 0) of none", full.lowerBits(1, 0), NOT_FOUND);
        for (int row : NO_ROW) {
            due("lowerBits(" + row + ", 0)", rows.lowerBits(row, 0), INVALID);
        }
    }

    private static void promise13Next() {
        check.about("13: next");
        RisingParts rows = rowsOf(of(5, 5, 9, 40, 60), of());
        rows.bound(0, 64);
        int[] asked = {0, 5, 6, 9, 10, 40, 41, 60};
        int[] found = {0, 0, 2, 2, 3, 3, 4, 4};
        int[] numbers = {5, 5, 9, 40, 60};
        for (int i = 0; i < asked.length; i++) {
            due("next(0, " + asked[i] + ", 0)", rows.next(0, asked[i], 0), numbers[found[i]]);
            due("next(0, " + asked[i] + ", 1)", rows.next(0, asked[i], 1), found[i]);
        }
        due("next(0, 61, 0)", rows.next(0, 61, 0), NOT_FOUND);
        due("next(0, 63, 1)", rows.next(0, 63, 1), NOT_FOUND);
        for (int what = 0; what < 3; what++) {
            due("next(0, 64, " + what + ")", rows.next(0, 64, what), NOT_FOUND);
            due("next(0, 4095, " + what + ")", rows.next(0, 4095, what), NOT_FOUND);
            due("next(0, 4096, " + what + ")", rows.next(0, 4096, what), INVALID);
            due("next(0, -1, " + what + ")", rows.next(0, -1, what), INVALID);
        }
        due("next(0, 1, 3)", rows.next(0, 1, 3), INVALID);
        due("next(0, 1, -1)", rows.next(0, 1, -1), INVALID);
        due("next(1, 1, 0) of none", rows.next(1, 1, 0), NOT_FOUND);
        for (int row : NO_ROW) {
            due("next(" + row + ", 1, 0)", rows.next(row, 1, 0), INVALID);
        }
    }

    private static void promise13WorkOfNext() {
        check.about("13: the work of next");
        RisingParts rows = rowsOf(of(5, 5, 9, 40, 60), of());
        rows.bound(0, 64);
        // The width is 3, the upper row 1101000010010: zeros at 2, 4, 5, 6, 7, 9, 10, 12, samples of them at 2 and 7.
        due("next(0, 0, 2)", rows.next(0, 0, 2), 1);
        due("next(0, 5, 2)", rows.next(0, 5, 2), 1);
        due("next(0, 6, 2)", rows.next(0, 6, 2), 4);
        due("next(0, 8, 2)", rows.next(0, 8, 2), 0 + 1);
        due("next(0, 10, 2)", rows.next(0, 10, 2), 0 + 6);
        due("next(0, 32, 2)", rows.next(0, 32, 2), 4 + 2);
        due("next(0, 40, 2)", rows.next(0, 40, 2), 0 + 1);
        due("next(0, 41, 2)", rows.next(0, 41, 2), 0 + 4);
        due("next(0, 56, 2)", rows.next(0, 56, 2), 3 + 1);
        due("next(0, 61, 2)", rows.next(0, 61, 2), 3 + 2);
        due("next(1, 0, 2) of none", rows.next(1, 0, 2), 4095);
        due("next(1, 4095, 2) of none", rows.next(1, 4095, 2), 2);
    }

    private static void promise14Below() {
        check.about("14: below");
        RisingParts rows = rowsOf(of(0, 4, 4, 4095), of());
        int[] asked = {0, 1, 4, 5, 4095, 4096};
        int[] wanted = {0, 1, 1, 3, 3, 4};
        for (int i = 0; i < asked.length; i++) {
            due("below(0, " + asked[i] + ")", rows.below(0, asked[i]), wanted[i]);
        }
        due("below(1, 4096)", rows.below(1, 4096), 0);
        due("below(0, 4097)", rows.below(0, 4097), INVALID);
        due("below(0, -1)", rows.below(0, -1), INVALID);
        for (int row : NO_ROW) {
            due("below(" + row + ", 1)", rows.below(row, 1), INVALID);
        }
    }

    private static void commonIs(RisingParts rows, int... wanted) {
        for (int what = 0; what < wanted.length; what++) {
            due("common(" + what + ")", rows.common(what), wanted[what]);
        }
    }

    private static void promise15Common() {
        check.about("15: common");
        commonIs(rowsOf(of(2, 5, 5, 5, 8, 8, 9), of(5, 5, 7, 8, 8, 8)), 2, 4, 2, 5, 0);
        commonIs(rowsOf(of(10, 10, 50), of(44, 59, 4095)), 0, 0, 2, NOT_FOUND, 6);
        commonIs(rowsOf(of(0), of(4095)), 0, 0, 1, NOT_FOUND, 4095);
        commonIs(rowsOf(of(4095), of(0)), 0, 0, 1, NOT_FOUND, 4095);
        commonIs(rowsOf(of(3, 3), of()), 0, 0, 1, NOT_FOUND, NOT_FOUND);
        commonIs(rowsOf(of(), of(3)), 0, 0, 0, NOT_FOUND, NOT_FOUND);
        commonIs(rowsOf(of(0, 0), of(0)), 1, 1, 0, 0, 0);
        due("common(5)", new RisingParts().common(5), INVALID);
        due("common(-1)", new RisingParts().common(-1), INVALID);
    }

    private static void promise16PerNumber() {
        check.about("16: perNumber");
        RisingParts rows = new RisingParts();
        due("perNumber(0) of none", rows.perNumber(0), NOT_FOUND);
        for (int size = 1; size <= 40; size++) {
            rows.add(0, 25 * size);
            float wanted = (float) rows.rowOf(0, 4) / (float) size;
            due("perNumber(0) of " + size, rows.perNumber(0), Float.floatToIntBits(wanted));
        }
        due("perNumber(1) of none", rows.perNumber(1), NOT_FOUND);
        rows.bound(1, 2);
        rows.add(1, 0);
        due("perNumber(1)", rows.perNumber(1), Float.floatToIntBits(3.0f));
        for (int row : NO_ROW) {
            due("perNumber(" + row + ")", rows.perNumber(row), INVALID);
        }
    }

    private static int sizeByTheWords(int size, int bound) {
        int width = 0;
        for (int w = 0; w <= 12; w++) {
            if ((1 << w) <= bound / size) {
                width = w;
            }
        }
        return size + ((bound - 1) >> width) + 1 + size * width;
    }

    private static void promise17BestBound() {
        check.about("17: bestBound");
        RisingParts rows = new RisingParts();
        due("bestBound(0, 0) of none", rows.bestBound(0, 0), NOT_FOUND);
        due("bestBound(0, 1) of none", rows.bestBound(0, 1), NOT_FOUND);
        due("bestBound(0, 2)", rows.bestBound(0, 2), INVALID);
        due("bestBound(0, -1)", rows.bestBound(0, -1), INVALID);
        for (int row : NO_ROW) {
            due("bestBound(" + row + ", 0)", rows.bestBound(row, 0), INVALID);
        }
        for (int size = 1; size <= 40; size++) {
            rows.add(1, 0);
            bestBoundsAreByTheWords(size);
        }
        due("bestBound(1, 0) of zeros", rows.bestBound(1, 0), 2);
        due("bestBound(1, 1) of zeros", rows.bestBound(1, 1), 42);
        due("rowOf(1, 1)", rows.rowOf(1, 1), 1024);
    }

    private static void bestBoundsAreByTheWords(int size) {
        for (int greatest = 4095; greatest >= 0; greatest -= 13) {
            int best = Math.max(2, greatest + 1);
            for (int bound = best; bound <= 4096; bound++) {
                if (sizeByTheWords(size, bound) < sizeByTheWords(size, best)) {
                    best = bound;
                }
            }
            RisingParts rows = new RisingParts();
            rows.bound(0, 4096);
            for (int i = 0; i < size; i++) {
                rows.add(0, i == 0 ? greatest : 0);
            }
            due("bestBound(0, 0) of " + size + " to " + greatest, rows.bestBound(0, 0), best);
            due("bestBound(0, 1) of " + size + " to " + greatest, rows.bestBound(0, 1), sizeByTheWords(size, best));
        }
    }

    private static void promise18GapOf() {
        check.about("18: gapOf");
        RisingParts rows = rowsOf(of(1, 1, 2, 4, 9, 14, 16, 17, 22), of(8));
        int[][] gaps = {{3, 5}, {4, 5}, {7, 5}, {2, 2}, {5, 2}};
        for (int index = 0; index < gaps.length; index++) {
            due("gapOf(0, " + index + ", 0)", rows.gapOf(0, index, 0), gaps[index][0]);
            due("gapOf(0, " + index + ", 1)", rows.gapOf(0, index, 1), gaps[index][1]);
        }
        due("gapOf(0, 5, 0)", rows.gapOf(0, 5, 0), NOT_FOUND);
        due("gapOf(0, max, 1)", rows.gapOf(0, Integer.MAX_VALUE, 1), NOT_FOUND);
        due("gapOf(0, -1, 0)", rows.gapOf(0, -1, 0), INVALID);
        due("gapOf(0, 0, 2)", rows.gapOf(0, 0, 2), INVALID);
        due("gapOf(0, 0, -1)", rows.gapOf(0, 0, -1), INVALID);
        due("gapOf(1, 0, 0) of one", rows.gapOf(1, 0, 0), NOT_FOUND);
        rows.add(1, 9);
        due("gapOf(1, 0, 0) of a step of 1", rows.gapOf(1, 0, 0), NOT_FOUND);
        rows.clear(1);
        due("gapOf(1, 0, 0) of none", rows.gapOf(1, 0, 0), NOT_FOUND);
        for (int row : NO_ROW) {
            due("gapOf(" + row + ", 0, 0)", rows.gapOf(row, 0, 0), INVALID);
        }
    }

    private static void promise19Count() {
        check.about("19: count");
        RisingParts rows = new RisingParts();
        due("count(1) of none", rows.count(1), 2046);
        rows.bound(0, 64);
        rows.add(0, 5);
        rows.add(1, 7);
        due("count(0)", rows.count(0), 2);
        due("count(1)", rows.count(1), (2 + 6) + (2 + 10));
        due("count(2)", rows.count(2), 3);
        due("count(3)", rows.count(3), 0);
        rows.type('x');
        rows.type('y');
        due("count(2)", rows.count(2), 3);
        due("count(3)", rows.count(3), 2);
        due("count(4)", rows.count(4), INVALID);
        due("count(-1)", rows.count(-1), INVALID);
    }

    private static void promise20Undo() {
        check.about("20: undo");
        RisingParts rows = new RisingParts();
        due("undo() of none", rows.undo(), NOT_POSSIBLE);
        for (int number = 1; number <= 6; number++) {
            rows.add(0, number);
            due("count(2)", rows.count(2), Math.min(4, number));
        }
        rows.add(2, 0);
        rows.drop(1, 0);
        due("count(2) behind errors", rows.count(2), 4);
        write(rows, "42");
        due("undo()", rows.undo(), 3);
        rowIs(rows, 0, 1, 2, 3, 4, 5);
        due("undo()", rows.undo(), 2);
        rows.add(0, 9);
        due("count(2)", rows.count(2), 3);
        due("undo()", rows.undo(), 2);
        due("undo()", rows.undo(), 1);
        due("undo()", rows.undo(), 0);
        rowIs(rows, 0, 1, 2);
        due("undo() of none", rows.undo(), NOT_POSSIBLE);
        rowIs(rows, 0, 1, 2);
        due("count(3)", rows.count(3), 2);
    }

    private static void promise20UndoOfEachChange() {
        check.about("20: undo of each change");
        for (int change = 0; change < 9; change++) {
            RisingParts rows = new RisingParts();
            write(rows, "3,8");
            rows.read(0);
            write(rows, "8,9,10");
            rows.read(1);
            rows.bound(0, 11);
            due("count(2)", rows.count(2), 3);
            makeChange(rows, change);
            due("count(2)", rows.count(2), 4);
            write(rows, "5");
            due("undo()", rows.undo(), 3);
            rowIs(rows, 0, 3, 8);
            rowIs(rows, 1, 8, 9, 10);
            due("rowOf(0, 1)", rows.rowOf(0, 1), 11);
            due("rowOf(1, 1)", rows.rowOf(1, 1), 1024);
            due("count(3)", rows.count(3), 1);
        }
    }

    private static void makeChange(RisingParts rows, int change) {
        switch (change) {
            case 0: due("add(0, 4)", rows.add(0, 4), 1); break;
            case 1: due("drop(1, 0)", rows.drop(1, 0), 8); break;
            case 2: due("bound(1, 500)", rows.bound(1, 500), 1024); break;
            case 3: due("join(0)", rows.join(0), 5); break;
            case 4: due("join(1)", rows.join(1), 4); break;
            case 5: due("exchange()", rows.exchange(), 3); break;
            case 6: due("clear(0)", rows.clear(0), 2); break;
            case 7: due("clear(1)", rows.clear(1), 3); break;
            default: due("read(0)", rows.read(0), 3); break;
        }
    }

    private static void promise21Type() {
        check.about("21: type");
        RisingParts rows = new RisingParts();
        due("type(32)", rows.type(32), 1);
        due("type(126)", rows.type(126), 2);
        due("type(31)", rows.type(31), INVALID);
        due("type(127)", rows.type(127), INVALID);
        due("type(65585)", rows.type(65585), INVALID);
        due("type(-1)", rows.type(-1), INVALID);
        due("count(3)", rows.count(3), 2);
        for (int length = 3; length <= 60; length++) {
            due("type('1')", rows.type('1'), length);
        }
        due("type('1') to 60", rows.type('1'), LIMIT);
        due("type(127) to 60", rows.type(127), INVALID);
        due("count(3)", rows.count(3), 60);
        due("count(2)", rows.count(2), 0);
    }

    private static void promise22ClearText() {
        check.about("22: clearText");
        RisingParts rows = new RisingParts();
        due("clearText() of none", rows.clearText(), 0);
        write(rows, "1,x");
        due("clearText()", rows.clearText(), 3);
        due("count(3)", rows.count(3), 0);
        write(rows, "7");
        due("read(0)", rows.read(0), 1);
        rowIs(rows, 0, 7);
    }

    private static void faultIs(String written, int place, int reason) {
        RisingParts rows = new RisingParts();
        rows.bound(0, 500);
        write(rows, written);
        due("fault(0, 0) of " + written, rows.fault(0, 0), place);
        due("fault(0, 1) of " + written, rows.fault(0, 1), reason);
        due("read(0) of " + written, rows.read(0), NOT_POSSIBLE);
    }

    private static void noFault(String written) {
        RisingParts rows = new RisingParts();
        rows.bound(0, 500);
        write(rows, written);
        due("fault(0, 0) of " + written, rows.fault(0, 0), NOT_FOUND);
        due("fault(0, 1) of " + written, rows.fault(0, 1), NOT_FOUND);
    }

    private static void promise23Fault() {
        check.about("23: fault");
        noFault("0");
        noFault("499");
        noFault("0,0,10,10,499");
        faultIs("", 0, 1);
        faultIs(",", 0, 1);
        faultIs(" 1", 0, 1);
        faultIs("-1", 0, 1);
        faultIs("1,", 2, 1);
        faultIs("1,,2", 2, 1);
        faultIs("1 ,2", 1, 1);
        faultIs("1, 2", 2, 1);
        faultIs("1;2", 1, 1);
        faultIs("1/2", 1, 1);
        faultIs("1:2", 1, 1);
        faultIs("00", 1, 1);
        faultIs("1,05", 3, 1);
        faultIs("10000", 4, 1);
        faultIs("9999", 0, 3);
        faultIs("500", 0, 3);
        faultIs("7,6", 2, 2);
        faultIs("7,500", 2, 3);
        RisingParts rows = new RisingParts();
        rows.bound(1, 4096);
        write(rows, "2000");
        due("fault(0, 1)", rows.fault(0, 1), 3);
        due("fault(1, 1)", rows.fault(1, 1), NOT_FOUND);
        write(rows, "4096");
        due("fault(1, 1)", rows.fault(1, 1), 3);
        due("fault(0, 2)", rows.fault(0, 2), INVALID);
        due("fault(0, -1)", rows.fault(0, -1), INVALID);
        for (int row : NO_ROW) {
            due("fault(" + row + ", 0)", rows.fault(row, 0), INVALID);
        }
    }

    private static void promise23OrderOfFaults() {
        check.about("23: order of faults");
        faultIs("500,", 0, 3);
        faultIs("500,x", 0, 3);
        faultIs("500x", 3, 1);
        faultIs("50000,1", 4, 1);
        faultIs("7,6,x", 2, 2);
        faultIs("7,6x", 3, 1);
        faultIs("7,6,500", 2, 2);
        faultIs("600,550", 0, 3);
        faultIs("7,500,400", 2, 3);
        faultIs("7,02", 3, 1);
        faultIs("0,x,0", 2, 1);
        String full = "1,1,1,1,1,1,1,1,1,1,1,1,1,1,1,1,1,1,1,1,1,1,1,1,1,1,1,1,1,";
        noFault(full + "22");
        faultIs(full + "0", 58, 2);
        faultIs(full + "0,", 58, 2);
        faultIs(full + "1,", 60, 1);
    }

    private static void promise24Read() {
        check.about("24: read");
        RisingParts rows = rowsOf(of(1, 2, 3), of(9));
        rows.bound(0, 100);
        write(rows, "0,12,12,99");
        due("read(0)", rows.read(0), 4);
        rowIs(rows, 0, 0, 12, 12, 99);
        rowIs(rows, 1, 9);
        due("rowOf(0, 1)", rows.rowOf(0, 1), 100);
        due("count(3)", rows.count(3), 10);
        due("read(1)", rows.read(1), 4);
        rowIs(rows, 1, 0, 12, 12, 99);
        write(rows, "100");
        due("read(0)", rows.read(0), NOT_POSSIBLE);
        rowIs(rows, 0, 0, 12, 12, 99);
        due("read(1)", rows.read(1), 1);
        rowIs(rows, 1, 100);
        write(rows, "1,1,1,1,1,1,1,1,1,1,1,1,1,1,1,1,1,1,1,1,1,1,1,1,1,1,1,1,1,1");
        due("read(0) of 30", rows.read(0), 30);
        due("rowOf(0, 0)", rows.rowOf(0, 0), 30);
        rows.clearText();
        due("read(0) of no text", rows.read(0), NOT_POSSIBLE);
        for (int row : NO_ROW) {
            due("read(" + row + ")", rows.read(row), INVALID);
        }
    }
}
