import java.util.function.ToIntFunction;

/** The boundaries that 'Changes and errors' names: what is recorded, how many states, which error goes ahead. */
public final class ChangesBoundaryTest extends Cases {
    public static void main(String[] args) {
        eachChangeIsRecorded();
        changesThatAlterNothing();
        othersAreNotRecorded();
        atMost4States();
        theFifthDropsTheOldest();
        changesBehindAnUndo();
        everythingButTheText();
        invalidGoesAheadOfNotPossible();
        invalidGoesAheadOfLimit();
        invalidGoesAheadOfNotFound();
        notPossibleGoesAheadOfLimit();
        check.end();
    }

    /** Two rows that differ in all, with no state in the history. */
    private static RisingParts begun() {
        RisingParts rows = rowsOf(of(3, 8), of(8, 9, 10));
        rows.bound(0, 11);
        rows.bound(1, 1024);
        leaveStates(rows, 0);
        write(rows, "5,7");
        return rows;
    }

    private static void rowsAreAsBegun(RisingParts rows) {
        rowIs(rows, 0, 3, 8);
        rowIs(rows, 1, 8, 9, 10);
        due("bound of row 0", rows.rowOf(0, 1), 11);
        due("bound of row 1", rows.rowOf(1, 1), 1024);
    }

    private static void recorded(String call, ToIntFunction<RisingParts> change, int answer) {
        RisingParts rows = begun();
        due(call, change.applyAsInt(rows), answer);
        due("count(2) behind " + call, rows.count(2), 1);
        due("undo() of " + call, rows.undo(), 0);
        rowsAreAsBegun(rows);
        due("undo() again behind " + call, rows.undo(), NOT_POSSIBLE);
    }

    private static void eachChangeIsRecorded() {
        check.about("The changes: add, drop, bound, join, exchange, clear and read that return no error");
        recorded("add(0, 4)", rows -> rows.add(0, 4), 1);
        recorded("add(1, 4)", rows -> rows.add(1, 4), 0);
        recorded("drop(0, 1)", rows -> rows.drop(0, 1), 8);
        recorded("drop(1, 0)", rows -> rows.drop(1, 0), 8);
        recorded("bound(0, 9)", rows -> rows.bound(0, 9), 11);
        recorded("bound(1, 11)", rows -> rows.bound(1, 11), 1024);
        recorded("join(0)", rows -> rows.join(0), 5);
        recorded("join(1)", rows -> rows.join(1), 4);
        recorded("exchange()", rows -> rows.exchange(), 3);
        recorded("clear(0)", rows -> rows.clear(0), 2);
        recorded("clear(1)", rows -> rows.clear(1), 3);
        recorded("read(0)", rows -> rows.read(0), 2);
        recorded("read(1)", rows -> rows.read(1), 2);
    }

    private static void alteringNothing(RisingParts rows, String call, int got, int answer) {
        due(call, got, answer);
        due("count(2) behind " + call, rows.count(2), 1);
        due("undo() of " + call, rows.undo(), 0);
    }

    private static void changesThatAlterNothing() {
        check.about("a change that alters nothing returns no error, too");
        RisingParts rows = new RisingParts();
        alteringNothing(rows, "bound(0, 1024)", rows.bound(0, 1024), 1024);
        alteringNothing(rows, "join(0)", rows.join(0), 0);
        alteringNothing(rows, "join(1)", rows.join(1), 0);
        alteringNothing(rows, "exchange()", rows.exchange(), 0);
        alteringNothing(rows, "clear(0)", rows.clear(0), 0);
        alteringNothing(rows, "clear(1)", rows.clear(1), 0);
        rows.add(0, 6);
        leaveStates(rows, 0);
        write(rows, "6");
        alteringNothing(rows, "read(0)", rows.read(0), 1);
        rowIs(rows, 0, 6);
    }

    private static void notRecorded(String call, ToIntFunction<RisingParts> question) {
        RisingParts rows = begun();
        rows.drop(1, 2);
        int answer = question.applyAsInt(rows);
        due(call + " is no error", answer > NOT_FOUND ? 1 : 0, 1);
        due("count(2) behind " + call, rows.count(2), 1);
        rowIs(rows, 0, 3, 8);
        rowIs(rows, 1, 8, 9);
        due("undo() behind " + call, rows.undo(), 0);
        rowsAreAsBegun(rows);
    }

    private static void othersAreNotRecorded() {
        check.about("the calls that are no changes record nothing");
        notRecorded("rowOf(0, 4)", rows -> rows.rowOf(0, 4));
        notRecorded("upperBit(0, 0)", rows -> rows.upperBit(0, 0));
        notRecorded("partOf(0, 0, 4)", rows -> rows.partOf(0, 0, 4));
        notRecorded("sample(0, 1, 0)", rows -> rows.sample(0, 1, 0));
        notRecorded("lowerBits(0, 0)", rows -> (int) rows.lowerBits(0, 0));
        notRecorded("next(0, 4, 2)", rows -> rows.next(0, 4, 2));
        notRecorded("below(0, 4)", rows -> rows.below(0, 4));
        notRecorded("common(3)", rows -> rows.common(3));
        notRecorded("perNumber(0)", rows -> rows.perNumber(0));
        notRecorded("bestBound(0, 0)", rows -> rows.bestBound(0, 0));
        notRecorded("gapOf(0, 0, 0)", rows -> rows.gapOf(0, 0, 0));
        notRecorded("count(2)", rows -> rows.count(2));
        notRecorded("type('1')", rows -> rows.type('1'));
        notRecorded("clearText()", rows -> rows.clearText());
        notRecorded("fault(0, 0)", rows -> rows.clearText() + rows.fault(0, 0));
    }

    private static void atMost4States() {
        check.about("A history of at most 4 states is kept");
        RisingParts rows = new RisingParts();
        due("count(2) of a new object", rows.count(2), 0);
        for (int change = 1; change <= 9; change++) {
            rows.add(change % 2, change);
            due("count(2) behind change " + change, rows.count(2), Math.min(4, change));
        }
        for (int left = 3; left >= 0; left--) {
            due("undo()", rows.undo(), left);
            due("count(2)", rows.count(2), left);
        }
        due("undo() of none", rows.undo(), NOT_POSSIBLE);
        due("count(2)", rows.count(2), 0);
    }

    private static void theFifthDropsTheOldest() {
        check.about("if there are 5 states then, the oldest one is dropped");
        for (int changes = 0; changes <= 14; changes++) {
            statesOfRow(0, changes);
            statesOfRow(1, changes);
            statesOfBounds(changes);
        }
    }

    private static void statesOfRow(int row, int changes) {
        RisingParts rows = new RisingParts();
        for (int number = 0; number < changes; number++) {
            rows.add(row, 100);
            rows.undo();
            rows.add(row, number);
        }
        int kept = Math.min(4, changes);
        for (int undone = 1; undone <= kept; undone++) {
            due("undo() " + undone + " of " + changes, rows.undo(), kept - undone);
            rowIs(rows, row, upTo(changes - undone));
            rowIs(rows, 1 - row);
        }
        due("undo() of none of " + changes, rows.undo(), NOT_POSSIBLE);
        rowIs(rows, row, upTo(changes - kept));
    }

    /** Both rows change in turn, so that no state is as the one ahead of it. */
    private static void statesOfBounds(int changes) {
        RisingParts rows = new RisingParts();
        for (int change = 1; change <= changes; change++) {
            rows.bound(change % 2, 1024 + change);
        }
        for (int left = changes - 1; left >= changes - 4 && left >= 0; left--) {
            rows.undo();
            int odd = left % 2 == 1 ? left : left - 1;
            int even = left - left % 2;
            due("bound of row 1 behind " + left, rows.rowOf(1, 1), 1024 + Math.max(0, odd));
            due("bound of row 0 behind " + left, rows.rowOf(0, 1), 1024 + even);
        }
        due("undo() of none of " + changes, rows.undo(), NOT_POSSIBLE);
    }

    private static void changesBehindAnUndo() {
        check.about("Restores the latest state of the history, which is removed from it");
        RisingParts rows = new RisingParts();
        for (int number = 1; number <= 5; number++) {
            rows.add(0, number);
        }
        due("undo()", rows.undo(), 3);
        due("undo()", rows.undo(), 2);
        rowIs(rows, 0, 1, 2, 3);
        due("exchange()", rows.exchange(), 0);
        due("add(0, 9)", rows.add(0, 9), 0);
        due("count(2)", rows.count(2), 4);
        due("bound(0, 10)", rows.bound(0, 10), 1024);
        due("count(2)", rows.count(2), 4);
        due("undo()", rows.undo(), 3);
        due("rowOf(0, 1)", rows.rowOf(0, 1), 1024);
        due("undo()", rows.undo(), 2);
        rowIs(rows, 0);
        due("undo()", rows.undo(), 1);
        rowIs(rows, 0, 1, 2, 3);
        rowIs(rows, 1);
        due("undo()", rows.undo(), 0);
        rowIs(rows, 0, 1, 2);
        due("undo() of none", rows.undo(), NOT_POSSIBLE);
        rowIs(rows, 0, 1, 2);
    }

    private static void everythingButTheText() {
        check.about("each change records everything before it but the text");
        RisingParts rows = begun();
        rows.clear(0);
        rows.type(',');
        rows.type('9');
        due("undo()", rows.undo(), 0);
        rowsAreAsBegun(rows);
        due("count(3)", rows.count(3), 5);
        due("read(0)", rows.read(0), 3);
        rowIs(rows, 0, 5, 7, 9);
        rows.clearText();
        due("undo()", rows.undo(), 0);
        due("count(3)", rows.count(3), 0);
        due("fault(0, 0)", rows.fault(0, 0), 0);
        rowsAreAsBegun(rows);
    }

    private static void invalidGoesAheadOfNotPossible() {
        check.about("INVALID_ARGUMENT is returned rather than NOT_POSSIBLE");
        RisingParts rows = begun();
        due("add(2, 11)", rows.add(2, 11), INVALID);
        due("add(-1, 4095)", rows.add(-1, 4095), INVALID);
        due("add(0, 4096)", rows.add(0, 4096), INVALID);
        due("add(0, max)", rows.add(0, MAX), INVALID);
        due("drop(2, 99)", rows.drop(2, 99), INVALID);
        due("drop(-1, 0)", rows.drop(-1, 0), INVALID);
        due("bound(0, 1) below numbers", rows.bound(0, 1), INVALID);
        due("bound(0, min) below numbers", rows.bound(0, MIN), INVALID);
        due("bound(2, 5)", rows.bound(2, 5), INVALID);
        due("read(2) without a fault", rows.read(2), INVALID);
        rows.clearText();
        due("read(2) with a fault", rows.read(2), INVALID);
        due("read(-1) with a fault", rows.read(-1), INVALID);
        rows.clear(0);
        due("drop(0, -1) of none", rows.drop(0, -1), INVALID);
        due("drop(0, 0) of none", rows.drop(0, 0), NOT_POSSIBLE);
    }

    private static void invalidGoesAheadOfLimit() {
        check.about("INVALID_ARGUMENT is returned rather than LIMIT_REACHED");
        RisingParts rows = rowsOf(upTo(40), of(50));
        due("add(0, -1) to 40", rows.add(0, -1), INVALID);
        due("add(0, 4096) to 40", rows.add(0, 4096), INVALID);
        due("add(2, 0) to 40", rows.add(2, 0), INVALID);
        due("add(0, 0) to 40", rows.add(0, 0), LIMIT);
        due("join(2) to 41", rows.join(2), INVALID);
        due("join(-1) to 41", rows.join(-1), INVALID);
        due("join(0) to 41", rows.join(0), LIMIT);
        due("join(1) to 41", rows.join(1), LIMIT);
        write(rows, "1".repeat(60));
        due("type(31) to 60", rows.type(31), INVALID);
        due("type(127) to 60", rows.type(127), INVALID);
        due("type(32) to 60", rows.type(32), LIMIT);
        due("type(126) to 60", rows.type(126), LIMIT);
    }

    private static void invalidGoesAheadOfNotFound() {
        check.about("INVALID_ARGUMENT is returned rather than NOT_FOUND");
        RisingParts rows = new RisingParts();
        due("upperBit(2, 9999)", rows.upperBit(2, 9999), INVALID);
        due("partOf(2, 0, 0) of none", rows.partOf(2, 0, 0), INVALID);
        due("partOf(0, 0, 5) of none", rows.partOf(0, 0, 5), INVALID);
        due("partOf(0, 0, -1) of none", rows.partOf(0, 0, -1), INVALID);
        due("partOf(0, -1, 0) of none", rows.partOf(0, -1, 0), INVALID);
        due("sample(2, 0, 0) of none", rows.sample(2, 0, 0), INVALID);
        due("sample(0, 2, 9999)", rows.sample(0, 2, 9999), INVALID);
        due("sample(0, 0, -1) of none", rows.sample(0, 0, -1), INVALID);
        due("lowerBits(2, 0) of none", rows.lowerBits(2, 0), INVALID);
        due("lowerBits(0, -1) of none", rows.lowerBits(0, -1), INVALID);
        due("next(2, 2000, 0)", rows.next(2, 2000, 0), INVALID);
        due("next(0, 4096, 0)", rows.next(0, 4096, 0), INVALID);
        due("next(0, 2000, 3)", rows.next(0, 2000, 3), INVALID);
        due("next(0, 2000, -1)", rows.next(0, 2000, -1), INVALID);
        due("perNumber(2)", rows.perNumber(2), INVALID);
        due("bestBound(2, 0)", rows.bestBound(2, 0), INVALID);
        due("bestBound(0, 2) of none", rows.bestBound(0, 2), INVALID);
        due("gapOf(2, 0, 0)", rows.gapOf(2, 0, 0), INVALID);
        due("gapOf(0, -1, 0) of none", rows.gapOf(0, -1, 0), INVALID);
        due("gapOf(0, 0, 2) of none", rows.gapOf(0, 0, 2), INVALID);
        write(rows, "7");
        due("fault(2, 0) without a fault", rows.fault(2, 0), INVALID);
        due("fault(0, 2) without a fault", rows.fault(0, 2), INVALID);
        due("fault(0, -1) without a fault", rows.fault(0, -1), INVALID);
    }

    private static void notPossibleGoesAheadOfLimit() {
        check.about("NOT_POSSIBLE rather than LIMIT_REACHED");
        RisingParts rows = rowsOf(times(40, 5), of());
        rows.bound(0, 100);
        due("add(0, 99) to 40", rows.add(0, 99), LIMIT);
        due("add(0, 100) to 40", rows.add(0, 100), NOT_POSSIBLE);
        due("add(0, 101) to 40", rows.add(0, 101), NOT_POSSIBLE);
        due("add(0, 4095) to 40", rows.add(0, 4095), NOT_POSSIBLE);
        due("add(0, 4096) to 40", rows.add(0, 4096), INVALID);
        rows.drop(0, 0);
        due("add(0, 100) to 39", rows.add(0, 100), NOT_POSSIBLE);
        due("add(0, 99) to 39", rows.add(0, 99), 39);
    }
}
