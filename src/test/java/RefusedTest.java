import java.util.ArrayList;
import java.util.List;

/**
 * "A call that returns an error changes nothing": each refused call is made of an object whose twin is not asked,
 * and then both show the same rows, texts and histories, undo by undo.
 */
public final class RefusedTest extends Cases {
    private interface Call {
        long of(RisingParts rows);
    }

    /** The states in which the refused calls are made. */
    private enum Given { NEW, FEW_STATES, FOUR_STATES, FULL, FULL_FEW_STATES }

    public static void main(String[] args) {
        for (Given given : Given.values()) {
            anyState(given);
        }
        addsAndBounds();
        limits();
        questionsWithoutNumbers();
        questionsBeyondTheEnd();
        undoOfNone();
        readsOfFaults();
        noFault();
        check.end();
    }

    private static RisingParts made(Given given) {
        switch (given) {
            case NEW: return new RisingParts();
            case FEW_STATES: return some(2);
            case FOUR_STATES: return some(4);
            case FULL: return full(4);
            default: return full(1);
        }
    }

    /** Row 0: 5, 5, 9, 40 below 100; row 1: none, or with 4 states 500 below 600. No state is as another one. */
    private static RisingParts some(int states) {
        RisingParts rows = new RisingParts();
        write(rows, "5,9,40");
        rows.read(0);
        leaveStates(rows, 0);
        if (states == 4) {
            // States that are dropped again, so that the oldest one is not the first that was ever kept.
            rows.exchange();
            rows.exchange();
            rows.bound(1, 600);
            rows.add(1, 500);
        }
        rows.add(0, 5);
        rows.bound(0, 100);
        due("states to begin with", rows.count(2), states);
        write(rows, "3,8,500");
        return rows;
    }

    /** 40 numbers in both rows, below 4000 and below 40, and 60 characters, with a fault for row 1 alone. */
    private static RisingParts full(int states) {
        RisingParts rows = rowsOf(times(39, 7), upTo(40));
        rows.bound(1, 40);
        leaveStates(rows, 0);
        rows.exchange();
        rows.exchange();
        rows.bound(0, 4000);
        rows.add(0, 8);
        if (states == 1) {
            leaveStates(rows, 1);
        }
        due("states to begin with", rows.count(2), states);
        write(rows, "1" + ",1".repeat(28) + ",55");
        return rows;
    }

    /** All that can be asked of rows and text, and at last the text itself, as far as it can be read. */
    private static List<Long> shown(RisingParts rows) {
        List<Long> answers = new ArrayList<>();
        for (int row = 0; row < 2; row++) {
            int size = rows.rowOf(row, 0);
            answers.add((long) size);
            answers.add((long) rows.rowOf(row, 1));
            for (int i = 0; i < size; i++) {
                answers.add((long) rows.partOf(row, i, 0));
            }
            answers.add((long) rows.fault(row, 0));
            answers.add((long) rows.fault(row, 1));
        }
        answers.add((long) rows.count(2));
        answers.add((long) rows.count(3));
        rows.clear(1);
        rows.bound(1, 4096);
        int read = rows.read(1);
        answers.add((long) read);
        for (int i = 0; i < read; i++) {
            answers.add((long) rows.partOf(1, i, 0));
        }
        answers.add((long) rows.type(','));
        return answers;
    }

    private interface Maker {
        RisingParts make();
    }

    private static void refused(String name, int error, Maker maker, Call call) {
        for (int undone = 0; undone <= 5; undone++) {
            RisingParts asked = maker.make();
            RisingParts twin = maker.make();
            due(name, call.of(asked), error);
            due(name + ", again", call.of(asked), error);
            for (int i = 1; i <= undone; i++) {
                due("undo() " + i + " behind " + name, asked.undo(), twin.undo());
            }
            check.same("what is there behind " + name + " and " + undone + " undos", shown(asked), shown(twin));
        }
    }

    private static void refused(String name, int error, Given given, Call call) {
        refused(name + " in " + given, error, () -> made(given), call);
    }

    /** The calls that are refused in every state, for their arguments alone. */
    private static void anyState(Given given) {
        check.about("A call that returns an error changes nothing: arguments");
        for (int row : NO_ROW) {
            refused("add(" + row + ", 5)", INVALID, given, rows -> rows.add(row, 5));
            refused("drop(" + row + ", 0)", INVALID, given, rows -> rows.drop(row, 0));
            refused("bound(" + row + ", 4096)", INVALID, given, rows -> rows.bound(row, 4096));
            refused("join(" + row + ")", INVALID, given, rows -> rows.join(row));
            refused("clear(" + row + ")", INVALID, given, rows -> rows.clear(row));
            refused("read(" + row + ")", INVALID, given, rows -> rows.read(row));
            refused("fault(" + row + ", 0)", INVALID, given, rows -> rows.fault(row, 0));
            refused("fault(0, " + row + ")", INVALID, given, rows -> rows.fault(0, row));
            questionsOfNoRow(given, row);
        }
        for (int row = 0; row < 2; row++) {
            wrongNumbers(given, row);
            wrongWhats(given, row);
        }
        for (int what : of(-1, 5, MIN, MAX)) {
            refused("common(" + what + ")", INVALID, given, rows -> rows.common(what));
        }
        for (int what : of(-1, 4, MIN, MAX)) {
            refused("count(" + what + ")", INVALID, given, rows -> rows.count(what));
        }
        for (int character : of(31, 127, 0, -1, MIN, MAX)) {
            refused("type(" + character + ")", INVALID, given, rows -> rows.type(character));
        }
    }

    private static void questionsOfNoRow(Given given, int row) {
        refused("rowOf(" + row + ", 0)", INVALID, given, rows -> rows.rowOf(row, 0));
        refused("upperBit(" + row + ", 0)", INVALID, given, rows -> rows.upperBit(row, 0));
        refused("partOf(" + row + ", 0, 0)", INVALID, given, rows -> rows.partOf(row, 0, 0));
        refused("sample(" + row + ", 0, 0)", INVALID, given, rows -> rows.sample(row, 0, 0));
        refused("lowerBits(" + row + ", 0)", INVALID, given, rows -> rows.lowerBits(row, 0));
        refused("next(" + row + ", 0, 0)", INVALID, given, rows -> rows.next(row, 0, 0));
        refused("below(" + row + ", 0)", INVALID, given, rows -> rows.below(row, 0));
        refused("perNumber(" + row + ")", INVALID, given, rows -> rows.perNumber(row));
        refused("bestBound(" + row + ", 0)", INVALID, given, rows -> rows.bestBound(row, 0));
        refused("gapOf(" + row + ", 0, 0)", INVALID, given, rows -> rows.gapOf(row, 0, 0));
    }

    private static void wrongNumbers(Given given, int row) {
        for (int number : of(-1, 4096, MIN, MAX)) {
            refused("add(" + row + ", " + number + ")", INVALID, given, rows -> rows.add(row, number));
            refused("next(" + row + ", " + number + ", 2)", INVALID, given, rows -> rows.next(row, number, 2));
        }
        for (int bound : of(1, 0, -1, 4097, MIN, MAX)) {
            refused("bound(" + row + ", " + bound + ")", INVALID, given, rows -> rows.bound(row, bound));
        }
        for (int x : of(-1, 4097, MIN, MAX)) {
            refused("below(" + row + ", " + x + ")", INVALID, given, rows -> rows.below(row, x));
        }
        for (int index : of(-1, MIN)) {
            refused("drop(" + row + ", " + index + ")", INVALID, given, rows -> rows.drop(row, index));
            refused("upperBit(" + row + ", " + index + ")", INVALID, given, rows -> rows.upperBit(row, index));
            refused("partOf(" + row + ", " + index + ", 0)", INVALID, given, rows -> rows.partOf(row, index, 0));
            refused("sample(" + row + ", 1, " + index + ")", INVALID, given, rows -> rows.sample(row, 1, index));
            refused("lowerBits(" + row + ", " + index + ")", INVALID, given, rows -> rows.lowerBits(row, index));
            refused("gapOf(" + row + ", " + index + ", 0)", INVALID, given, rows -> rows.gapOf(row, index, 0));
        }
    }

    private static void wrongWhats(Given given, int row) {
        for (int end : of(-1, 0, MIN, MAX)) {
            int rowWhat = end == 0 ? 9 : end;
            refused("rowOf(" + row + ", " + rowWhat + ")", INVALID, given, rows -> rows.rowOf(row, rowWhat));
            int part = end == 0 ? 5 : end;
            refused("partOf(" + row + ", 0, " + part + ")", INVALID, given, rows -> rows.partOf(row, 0, part));
            int found = end == 0 ? 3 : end;
            refused("next(" + row + ", 0, " + found + ")", INVALID, given, rows -> rows.next(row, 0, found));
            int two = end == 0 ? 2 : end;
            refused("sample(" + row + ", " + two + ", 0)", INVALID, given, rows -> rows.sample(row, two, 0));
            refused("bestBound(" + row + ", " + two + ")", INVALID, given, rows -> rows.bestBound(row, two));
            refused("gapOf(" + row + ", 0, " + two + ")", INVALID, given, rows -> rows.gapOf(row, 0, two));
            refused("fault(" + row + ", " + two + ")", INVALID, given, rows -> rows.fault(row, two));
        }
    }

    private static void addsAndBounds() {
        check.about("A call that returns an error changes nothing: NOT_POSSIBLE");
        for (int number : of(1024, 1025, 4095)) {
            refused("add(0, number)", NOT_POSSIBLE, Given.NEW, rows -> rows.add(0, number));
            refused("add(1, number)", NOT_POSSIBLE, Given.NEW, rows -> rows.add(1, number));
        }
        for (Given given : new Given[] {Given.FEW_STATES, Given.FOUR_STATES}) {
            for (int above = 0; above < 2; above++) {
                int more = above;
                refused("add(0, bound)", NOT_POSSIBLE, given, rows -> rows.add(0, 100 + more));
                refused("add(1, bound)", NOT_POSSIBLE, given, rows -> rows.add(1, rows.rowOf(1, 1) + more));
                refused("drop(0, 4)", NOT_POSSIBLE, given, rows -> rows.drop(0, 4 + more));
                refused("drop(1, size)", NOT_POSSIBLE, given, rows -> rows.drop(1, rows.rowOf(1, 0) + more));
                refused("bound(0, 40)", NOT_POSSIBLE, given, rows -> rows.bound(0, 40 - more));
            }
            refused("drop(0, max)", NOT_POSSIBLE, given, rows -> rows.drop(0, MAX));
            refused("bound(0, 2)", NOT_POSSIBLE, given, rows -> rows.bound(0, 2));
        }
        refused("bound(1, 500)", NOT_POSSIBLE, Given.FOUR_STATES, rows -> rows.bound(1, 500));
        refused("drop(0, 0)", NOT_POSSIBLE, Given.NEW, rows -> rows.drop(0, 0));
        refused("drop(1, max)", NOT_POSSIBLE, Given.NEW, rows -> rows.drop(1, MAX));
        for (Given given : new Given[] {Given.FULL, Given.FULL_FEW_STATES}) {
            refused("add(0, 4000)", NOT_POSSIBLE, given, rows -> rows.add(0, 4000));
            refused("add(1, 40)", NOT_POSSIBLE, given, rows -> rows.add(1, 40));
            refused("drop(0, 40)", NOT_POSSIBLE, given, rows -> rows.drop(0, 40));
            refused("drop(1, 40)", NOT_POSSIBLE, given, rows -> rows.drop(1, 40));
            refused("bound(0, 8)", NOT_POSSIBLE, given, rows -> rows.bound(0, 8));
            refused("bound(1, 39)", NOT_POSSIBLE, given, rows -> rows.bound(1, 39));
        }
    }

    private static void limits() {
        check.about("A call that returns an error changes nothing: LIMIT_REACHED");
        for (Given given : new Given[] {Given.FULL, Given.FULL_FEW_STATES}) {
            for (int number : of(0, 7, 8, 39)) {
                refused("add(0, " + number + ")", LIMIT, given, rows -> rows.add(0, number));
                refused("add(1, " + number + ")", LIMIT, given, rows -> rows.add(1, number));
            }
            refused("join(0)", LIMIT, given, rows -> rows.join(0));
            for (int character : of(32, '1', ',', 126)) {
                refused("type(" + character + ")", LIMIT, given, rows -> rows.type(character));
            }
        }
        for (int states = 0; states <= 4; states++) {
            int left = states;
            Maker maker = () -> joinedTo41(left);
            refused("join(0) to 61 with " + states + " states", LIMIT, maker, rows -> rows.join(0));
            refused("join(1) to 41 with " + states + " states", LIMIT, maker, rows -> rows.join(1));
        }
    }

    /** 0 to 14 twice each, and 10 to 40: 61 numbers in both rows, 41 unlike ones. */
    private static RisingParts joinedTo41(int states) {
        int[] twice = new int[30];
        for (int i = 0; i < 30; i++) {
            twice[i] = i / 2;
        }
        int[] rest = new int[31];
        for (int i = 0; i < 31; i++) {
            rest[i] = 10 + i;
        }
        RisingParts rows = rowsOf(twice, rest);
        rows.bound(0, 40);
        leaveStates(rows, states);
        return rows;
    }

    private static void questionsWithoutNumbers() {
        check.about("A call that returns an error changes nothing: NOT_FOUND without numbers");
        for (int row = 0; row < 2; row++) {
            int asked = row;
            refused("upperBit(row, 1023)", NOT_FOUND, Given.NEW, rows -> rows.upperBit(asked, 1023));
            refused("partOf(row, 0, 0)", NOT_FOUND, Given.NEW, rows -> rows.partOf(asked, 0, 0));
            refused("sample(row, 0, 0)", NOT_FOUND, Given.NEW, rows -> rows.sample(asked, 0, 0));
            refused("sample(row, 1, 256)", NOT_FOUND, Given.NEW, rows -> rows.sample(asked, 1, 256));
            refused("lowerBits(row, 0)", NOT_FOUND, Given.NEW, rows -> rows.lowerBits(asked, 0));
            refused("next(row, 0, 0)", NOT_FOUND, Given.NEW, rows -> rows.next(asked, 0, 0));
            refused("next(row, 1024, 2)", NOT_FOUND, Given.NEW, rows -> rows.next(asked, 1024, 2));
            refused("perNumber(row)", NOT_FOUND, Given.NEW, rows -> rows.perNumber(asked));
            refused("bestBound(row, 0)", NOT_FOUND, Given.NEW, rows -> rows.bestBound(asked, 0));
            refused("bestBound(row, 1)", NOT_FOUND, Given.NEW, rows -> rows.bestBound(asked, 1));
            refused("gapOf(row, 0, 0)", NOT_FOUND, Given.NEW, rows -> rows.gapOf(asked, 0, 0));
        }
        refused("common(3)", NOT_FOUND, Given.NEW, rows -> rows.common(3));
        refused("common(4)", NOT_FOUND, Given.NEW, rows -> rows.common(4));
    }

    private static void questionsBeyondTheEnd() {
        check.about("A call that returns an error changes nothing: NOT_FOUND beyond the end");
        for (Given given : new Given[] {Given.FOUR_STATES, Given.FULL, Given.FULL_FEW_STATES}) {
            for (int row = 0; row < 2; row++) {
                int asked = row;
                refused("upperBit at the end", NOT_FOUND, given, rows -> rows.upperBit(asked, rows.rowOf(asked, 3)));
                refused("partOf at the end", NOT_FOUND, given, rows -> rows.partOf(asked, rows.rowOf(asked, 0), 4));
                refused("sample of ones at the end", NOT_FOUND, given,
                    rows -> rows.sample(asked, 0, rows.rowOf(asked, 5)));
                refused("sample of zeros at the end", NOT_FOUND, given,
                    rows -> rows.sample(asked, 1, rows.rowOf(asked, 6)));
                refused("lowerBits(row, max)", NOT_FOUND, given, rows -> rows.lowerBits(asked, MAX));
                refused("next at the bound", NOT_FOUND, given, rows -> rows.next(asked, rows.rowOf(asked, 1), 2));
                refused("gapOf(row, 40, 1)", NOT_FOUND, given, rows -> rows.gapOf(asked, 40, 1));
            }
        }
        refused("common(3)", NOT_FOUND, Given.FOUR_STATES, rows -> rows.common(3));
        refused("next(0, 41, 0)", NOT_FOUND, Given.FOUR_STATES, rows -> rows.next(0, 41, 0));
        refused("next(0, 9, 1)", NOT_FOUND, Given.FULL, rows -> rows.next(0, 9, 1));
    }

    private static RisingParts withoutStates() {
        RisingParts rows = some(2);
        rows.undo();
        rows.undo();
        return rows;
    }

    private static void undoOfNone() {
        check.about("A call that returns an error changes nothing: undo");
        refused("undo()", NOT_POSSIBLE, Given.NEW, rows -> rows.undo());
        refused("undo() of none", NOT_POSSIBLE, RefusedTest::withoutStates, rows -> rows.undo());
        RisingParts rows = withoutStates();
        rows.undo();
        due("add(0, 6) behind a refused undo", rows.add(0, 6), 1);
        due("count(2) then", rows.count(2), 1);
        due("undo() then", rows.undo(), 0);
        rowIs(rows, 0, 5, 9, 40);
    }

    private static void readsOfFaults() {
        check.about("A call that returns an error changes nothing: read");
        refused("read(0) of no text", NOT_POSSIBLE, Given.NEW, rows -> rows.read(0));
        refused("read(1) of no text", NOT_POSSIBLE, Given.NEW, rows -> rows.read(1));
        refused("read(0), reason 3", NOT_POSSIBLE, Given.FEW_STATES, rows -> rows.read(0));
        refused("read(0), reason 3", NOT_POSSIBLE, Given.FOUR_STATES, rows -> rows.read(0));
        refused("read(1), reason 3", NOT_POSSIBLE, Given.FULL, rows -> rows.read(1));
        refused("read(1), reason 3", NOT_POSSIBLE, Given.FULL_FEW_STATES, rows -> rows.read(1));
        for (String text : new String[] {"1,2,", "9,8", "1,2,x", "00", "12345", ""}) {
            for (int states = 0; states <= 4; states++) {
                int left = states;
                Maker maker = () -> {
                    RisingParts rows = rowsOf(of(5, 9), of(6));
                    leaveStates(rows, left);
                    write(rows, text);
                    return rows;
                };
                refused("read(0) of '" + text + "'", NOT_POSSIBLE, maker, rows -> rows.read(0));
                refused("read(1) of '" + text + "'", NOT_POSSIBLE, maker, rows -> rows.read(1));
            }
        }
    }

    private static void noFault() {
        check.about("A call that returns an error changes nothing: fault");
        refused("fault(1, 0)", NOT_FOUND, Given.FEW_STATES, rows -> rows.fault(1, 0));
        refused("fault(1, 1)", NOT_FOUND, Given.FOUR_STATES, rows -> rows.fault(1, 1));
        refused("fault(0, 0)", NOT_FOUND, Given.FULL, rows -> rows.fault(0, 0));
        refused("fault(0, 1)", NOT_FOUND, Given.FULL_FEW_STATES, rows -> rows.fault(0, 1));
    }
}
