/** Long runs of calls, each answered by the program and by the model; the calls come from a fixed row of numbers. */
public final class ModelTest {
    private static final int RUNS = 1500;
    // What is answered behind 512 calls is free, and the last step may make up to 84.
    private static final int CALLS = 512 - 84;
    private static final int KINDS = 26;

    private static final Check check = new Check();

    private final RisingParts real = new RisingParts();
    private final Model model = new Model();
    private final int greatest;
    private long seed;

    private ModelTest(int run) {
        seed = 7919L * run + 1;
        greatest = new int[] {3, 12, 70, 600, 1024, 4096}[run % 6];
    }

    public static void main(String[] args) {
        for (int run = 0; run < RUNS && !check.hasFailed(); run++) {
            check.about("run " + run);
            new ModelTest(run).run();
        }
        check.end();
    }

    private int pick(int below) {
        seed = seed * 6364136223846793005L + 1442695040888963407L;
        return (int) ((seed >>> 33) % below);
    }

    private int rarely(int usual, int wrong) {
        return pick(40) == 0 ? wrong : usual;
    }

    private int row() {
        return rarely(pick(2), new int[] {-1, 2, Integer.MIN_VALUE, Integer.MAX_VALUE}[pick(4)]);
    }

    private int what(int kinds) {
        return rarely(pick(kinds), new int[] {-1, kinds, Integer.MIN_VALUE, Integer.MAX_VALUE}[pick(4)]);
    }

    private int number() {
        return rarely(pick(greatest), new int[] {-1, 0, 1, 2, 1023, 1024, 4095, 4096, 4097, Integer.MAX_VALUE}[pick(10)]);
    }

    private int index() {
        return rarely(pick(pick(2) == 0 ? 5 : 45), new int[] {-1, Integer.MIN_VALUE, Integer.MAX_VALUE, 39, 40}[pick(5)]);
    }

    private int place() {
        return rarely(pick(pick(2) == 0 ? 130 : 4200), new int[] {-1, Integer.MIN_VALUE, Integer.MAX_VALUE, 4095}[pick(4)]);
    }

    private void run() {
        for (int call = 0; call < CALLS && !check.hasFailed(); ) {
            call += step(pick(KINDS));
        }
    }

    private void due(String call, long got, long want) {
        check.due(call, got, want);
    }

    /** Makes the calls of a kind and tells how many they were. */
    private int step(int kind) {
        if (kind < 9) {
            return change(kind);
        }
        return kind < 21 ? question(kind) : write(kind);
    }

    private int change(int kind) {
        int row = row();
        int number = number();
        int index = index();
        switch (kind) {
            case 0: due("drop " + row + " " + index, real.drop(row, index), model.drop(row, index)); break;
            case 1: due("bound " + row + " " + number, real.bound(row, number), model.bound(row, number)); break;
            case 2: int once = what(2); due("join " + once, real.join(once), model.join(once)); break;
            case 3: due("exchange", real.exchange(), model.exchange()); break;
            case 4: if (pick(9) == 0) { due("clear " + row, real.clear(row), model.clear(row)); } break;
            case 5: due("undo", real.undo(), model.undo()); break;
            default: due("add " + row + " " + number, real.add(row, number), model.add(row, number)); break;
        }
        return 1;
    }

    private int question(int kind) {
        int row = row();
        int x = number();
        int index = index();
        int place = place();
        int two = what(2);
        switch (kind) {
            case 9: int of = what(9); due("rowOf " + row + " " + of, real.rowOf(row, of), model.rowOf(row, of)); break;
            case 10: due("upperBit " + row + " " + place, real.upperBit(row, place), model.upperBit(row, place)); break;
            case 11: int part = what(5);
                due("partOf " + row + " " + index + " " + part, real.partOf(row, index, part), model.partOf(row, index, part));
                break;
            case 12: int at = pick(9) == 0 ? place : index;
                due("sample " + row + " " + two + " " + at, real.sample(row, two, at), model.sample(row, two, at));
                break;
            case 13: int word = rarely(pick(9), index);
                due("lowerBits " + row + " " + word, real.lowerBits(row, word), model.lowerBits(row, word));
                break;
            case 14: case 15: int found = what(3);
                due("next " + row + " " + x + " " + found, real.next(row, x, found), model.next(row, x, found));
                break;
            case 16: due("below " + row + " " + x, real.below(row, x), model.below(row, x)); break;
            case 17: int five = what(5); due("common " + five, real.common(five), model.common(five)); break;
            case 18: due("perNumber " + row, real.perNumber(row), model.perNumber(row)); break;
            case 19:
                due("gapOf " + row + " " + index + " " + two, real.gapOf(row, index, two), model.gapOf(row, index, two));
                break;
            default: return rareQuestion(row, two);
        }
        return 1;
    }

    private int rareQuestion(int row, int two) {
        int four = what(4);
        due("count " + four, real.count(four), model.count(four));
        if (pick(12) == 0) {
            due("bestBound " + row + " " + two, real.bestBound(row, two), model.bestBound(row, two));
        }
        return 2;
    }

    private int write(int kind) {
        int row = row();
        int two = what(2);
        switch (kind) {
            case 21: due("fault " + row + " " + two, real.fault(row, two), model.fault(row, two)); return 1;
            case 22: due("read " + row, real.read(row), model.read(row)); return 1;
            case 23: return pick(5) == 0 ? writeList() : typeOne("0123456789,,,,".charAt(pick(14)));
            case 24: return typeOne(rarely('0' + pick(10), new int[] {31, 32, 126, 127, '/', ':', -1}[pick(7)]));
            default:
                if (pick(4) == 0) {
                    due("clearText", real.clearText(), model.clearText());
                }
                return 1;
        }
    }

    private int typeOne(int character) {
        due("type " + character, real.type(character), model.type(character));
        return 1;
    }

    /** Types a list that mostly has no fault, asks for its fault and reads it. */
    private int writeList() {
        StringBuilder list = new StringBuilder();
        int number = 0;
        int numbers = 1 + pick(16);
        for (int i = 0; i < numbers; i++) {
            number = pick(25) == 0 ? pick(5000) : number + pick(1 + 2 * greatest / numbers);
            list.append(i == 0 ? "" : ",").append(number);
        }
        due("clearText", real.clearText(), model.clearText());
        for (int i = 0; i < list.length(); i++) {
            typeOne(list.charAt(i));
        }
        int row = pick(2);
        due("fault " + row + " 0 of " + list, real.fault(row, 0), model.fault(row, 0));
        due("fault " + row + " 1 of " + list, real.fault(row, 1), model.fault(row, 1));
        due("read " + row + " of " + list, real.read(row), model.read(row));
        return list.length() + 4;
    }
}
