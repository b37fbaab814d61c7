/** The boundaries that 'Terms' names for texts: at each one, and right beside it on both sides. */
public final class TextBoundaryTest extends Cases {
    public static void main(String[] args) {
        atMost60Characters();
        initiallyEmpty();
        oneOrMoreNumbers();
        numbersOf1To4Digits();
        firstDigit0();
        commaBetweenTwo();
        charactersBesideTheAllowed();
        endsTooEarly();
        lessThanTheOneAhead();
        notBelowTheBound();
        firstFaultFromTheLeft();
        toldWhenTheNumberHasEnded();
        toldAtTheFirstDigit();
        firstReasonThatApplies();
        numbersIn60Characters();
        check.end();
    }

    /** The fault of a text for both rows, with the bound 500 and the bound 4096. */
    private static void faultsAre(String written, int place, int reason, int widePlace, int wideReason) {
        RisingParts rows = new RisingParts();
        rows.bound(0, 500);
        rows.bound(1, 4096);
        write(rows, written);
        faultIs(rows, 0, written, place, reason);
        faultIs(rows, 1, written, widePlace, wideReason);
    }

    private static void faultIs(RisingParts rows, int row, String written, int place, int reason) {
        due("fault(" + row + ", 0) of '" + written + "'", rows.fault(row, 0), place);
        due("fault(" + row + ", 1) of '" + written + "'", rows.fault(row, 1), reason);
        int read = rows.read(row);
        due("read(" + row + ") of '" + written + "' refused", read == NOT_POSSIBLE ? 1 : 0, reason > 0 ? 1 : 0);
    }

    private static void bothAre(String written, int place, int reason) {
        faultsAre(written, place, reason, place, reason);
    }

    private static void noFault(String written) {
        bothAre(written, NOT_FOUND, NOT_FOUND);
    }

    private static void atMost60Characters() {
        check.about("There is a text of at most 60 characters");
        RisingParts rows = new RisingParts();
        write(rows, "0".repeat(58));
        due("the 59th", rows.type('9'), 59);
        due("the 60th", rows.type(','), 60);
        due("the 61st", rows.type('1'), LIMIT);
        due("the 61st again", rows.type('1'), LIMIT);
        due("count(3)", rows.count(3), 60);
        due("clearText()", rows.clearText(), 60);
        due("the first of an emptied one", rows.type('1'), 1);
        due("count(3)", rows.count(3), 1);
    }

    private static void initiallyEmpty() {
        check.about("initially empty");
        RisingParts rows = new RisingParts();
        due("count(3)", rows.count(3), 0);
        due("fault(0, 0)", rows.fault(0, 0), 0);
        due("fault(0, 1)", rows.fault(0, 1), 1);
        due("clearText()", rows.clearText(), 0);
        due("type('7')", rows.type('7'), 1);
        due("count(3)", rows.count(3), 1);
        due("fault(0, 0)", rows.fault(0, 0), NOT_FOUND);
    }

    private static void oneOrMoreNumbers() {
        check.about("As a list it is one or more numbers");
        bothAre("", 0, 1);
        noFault("7");
        noFault("7,8");
        noFault("7,8,9");
    }

    private static void numbersOf1To4Digits() {
        check.about("of 1 to 4 digits");
        bothAre(",", 0, 1);
        noFault("1");
        noFault("12");
        noFault("123");
        faultsAre("1234", 0, 3, NOT_FOUND, NOT_FOUND);
        bothAre("12345", 4, 1);
        bothAre("123456", 4, 1);
        noFault("0,123");
        faultsAre("0,1234", 2, 3, NOT_FOUND, NOT_FOUND);
        bothAre("0,12345", 6, 1);
        bothAre("0,12345,", 6, 1);
    }

    private static void firstDigit0() {
        check.about("the first one not 0 unless it is the only one");
        noFault("0");
        bothAre("00", 1, 1);
        bothAre("01", 1, 1);
        bothAre("09", 1, 1);
        noFault("10");
        noFault("100");
        faultsAre("1000", 0, 3, NOT_FOUND, NOT_FOUND);
        noFault("0,0");
        noFault("0,0,1");
        bothAre("0,00", 3, 1);
        bothAre("0,01", 3, 1);
        bothAre("0,0,01", 5, 1);
        bothAre("000", 1, 1);
        bothAre("0000", 1, 1);
    }

    private static void commaBetweenTwo() {
        check.about("with ',' between two");
        noFault("1,2");
        bothAre("1,,2", 2, 1);
        bothAre(",1", 0, 1);
        bothAre(",,", 0, 1);
        bothAre("1,", 2, 1);
        bothAre("1,,", 2, 1);
        bothAre("1 2", 1, 1);
    }

    private static void charactersBesideTheAllowed() {
        check.about("reason 1: a character that is not allowed there (its place)");
        noFault("9,9");
        noFault("0,9");
        for (int character = 32; character <= 126; character++) {
            char sign = (char) character;
            boolean isDigit = sign >= '0' && sign <= '9';
            if (!isDigit) {
                bothAre(sign + "1", 0, 1);
                bothAre("5," + sign + "7", 2, 1);
                if (sign != ',') {
                    bothAre("5" + sign + "7", 1, 1);
                    bothAre("0" + sign, 1, 1);
                    bothAre("495" + sign, 3, 1);
                    bothAre("1234" + sign, 4, 1);
                }
            }
        }
    }

    private static void endsTooEarly() {
        check.about("the length of the text if it ends too early, as the empty text does");
        bothAre("", 0, 1);
        noFault("1");
        bothAre("1,", 2, 1);
        noFault("1,2");
        bothAre("1,2,", 4, 1);
        bothAre("0,123,", 6, 1);
    }

    private static void lessThanTheOneAhead() {
        check.about("reason 2: the number is less than the one ahead of it");
        bothAre("20,19", 3, 2);
        noFault("20,20");
        noFault("20,21");
        bothAre("20,20,19", 6, 2);
        bothAre("20,21,20", 6, 2);
        noFault("19,20,20,21");
        bothAre("1,0", 2, 2);
        noFault("0,0");
        bothAre("100,99", 4, 2);
        noFault("99,100");
        // Only the one ahead counts, and the place is that of the first digit.
        bothAre("5,30,29,31", 5, 2);
    }

    private static void notBelowTheBound() {
        check.about("reason 3: it is not below the bound of the row");
        for (int bound : of(2, 3, 10, 11, 100, 1000, 1024, 4095, 4096)) {
            RisingParts rows = new RisingParts();
            rows.bound(0, bound);
            for (String ahead : new String[] {"", "0,", "0,1,"}) {
                write(rows, ahead + (bound - 1));
                faultIs(rows, 0, ahead + (bound - 1), NOT_FOUND, NOT_FOUND);
                write(rows, ahead + bound);
                faultIs(rows, 0, ahead + bound, ahead.length(), 3);
                write(rows, ahead + (bound + 1));
                faultIs(rows, 0, ahead + (bound + 1), ahead.length(), 3);
                write(rows, ahead + "9999");
                faultIs(rows, 0, ahead + "9999", ahead.length(), 3);
            }
        }
        RisingParts fresh = new RisingParts();
        write(fresh, "1023");
        faultIs(fresh, 1, "1023", NOT_FOUND, NOT_FOUND);
        write(fresh, "1024");
        faultIs(fresh, 1, "1024", 0, 3);
    }

    private static void firstFaultFromTheLeft() {
        check.about("the first one that is told as it is read from the left");
        faultsAre("500,400", 0, 3, 4, 2);
        faultsAre("400,500,400", 4, 3, 8, 2);
        faultsAre("500,x", 0, 3, 4, 1);
        faultsAre("9,8,500", 2, 2, 2, 2);
        faultsAre("9,8,x", 2, 2, 2, 2);
        faultsAre("9,x,8", 2, 1, 2, 1);
        faultsAre("500,4096", 0, 3, 4, 3);
    }

    private static void toldWhenTheNumberHasEnded() {
        check.about("when the character behind a number (or the end of the text) is come to and may stand there");
        faultsAre("500", 0, 3, NOT_FOUND, NOT_FOUND);
        faultsAre("500,", 0, 3, 4, 1);
        faultsAre("500x", 3, 1, 3, 1);
        faultsAre("5000", 0, 3, 0, 3);
        faultsAre("5000,", 0, 3, 0, 3);
        faultsAre("5000x", 4, 1, 4, 1);
        faultsAre("50000", 4, 1, 4, 1);
        faultsAre("9,8", 2, 2, 2, 2);
        faultsAre("9,8,", 2, 2, 2, 2);
        faultsAre("9,8x", 3, 1, 3, 1);
        faultsAre("9,80", NOT_FOUND, NOT_FOUND, NOT_FOUND, NOT_FOUND);
        faultsAre("9,0", 2, 2, 2, 2);
        faultsAre("9,00", 3, 1, 3, 1);
        faultsAre("99,12345", 7, 1, 7, 1);
    }

    private static void toldAtTheFirstDigit() {
        check.about("both told at the place of its first digit");
        faultsAre("450,449", 4, 2, 4, 2);
        faultsAre("450,500", 4, 3, NOT_FOUND, NOT_FOUND);
        faultsAre("0,450,44,500", 6, 2, 6, 2);
        faultsAre("0,450,500,44", 6, 3, 10, 2);
    }

    private static void firstReasonThatApplies() {
        check.about("the first of these that applies");
        // A number that is less than one below the bound is below it too: so 2 and 3 come together only here.
        RisingParts rows = new RisingParts();
        write(rows, "9,8,7");
        for (int bound : of(2, 7, 8, 9, 10)) {
            rows.bound(0, bound);
            due("place for bound " + bound, rows.fault(0, 0), bound < 10 ? 0 : 2);
            due("reason for bound " + bound, rows.fault(0, 1), bound < 10 ? 3 : 2);
        }
    }

    private static void numbersIn60Characters() {
        check.about("a list of 59 and 60 characters");
        RisingParts rows = new RisingParts();
        String thirty = "3" + ",3".repeat(29);
        write(rows, thirty);
        due("count(3)", rows.count(3), 59);
        due("read(0) of 59 characters", rows.read(0), 30);
        due("type(',')", rows.type(','), 60);
        due("fault(0, 0) of 60", rows.fault(0, 0), 60);
        due("fault(0, 1) of 60", rows.fault(0, 1), 1);
        due("read(0) of 60, the last one a comma", rows.read(0), NOT_POSSIBLE);
        write(rows, thirty + "9");
        due("count(3)", rows.count(3), 60);
        due("read(0) of 60 characters", rows.read(0), 30);
        due("the last one", rows.partOf(0, 29, 0), 39);
        write(rows, thirty + "x");
        due("fault(0, 0) of 60", rows.fault(0, 0), 59);
        write(rows, thirty.substring(0, 58) + "2");
        due("fault(0, 0) of 59", rows.fault(0, 0), 58);
        due("fault(0, 1) of 59", rows.fault(0, 1), 2);
    }
}
