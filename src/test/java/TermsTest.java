import java.math.BigInteger;

/** The terms, sentence by sentence: each boundary that one names has its test here or where it is named elsewhere. */
public final class TermsTest {
    private static final int TERMS = Document.TERMS;

    public static void main(String[] args) {
        lastOfTheCalls();
        noVerdictWithoutACertificate();
        numbersOfMachines();
        sizesOfMachines();
        tapes();
        ordersThatAreNotTold();
        beginsAnew();
        haltIsNoStep();
        haltedBehindAsManyStepsAsTold();
        movesBeyondTheEnd();
        movesBeyondTheLastCell();
        turnsOnTheLastCell();
        boundOfSteps();
        marks();
        span();
        ordersTakeAway();
        prints();
        runsByRuns();
        fourWorkers();
        disputes();
        holdouts();
        Due.end();
    }

    /** Steps r, r, l again and again: one cell farther in three steps; nothing is written. */
    static int forthAndBack(Beaverhall x, char tape) {
        return Told.add(x, tape, 3, 2, 11, 11, 12, 12, 0, 0);
    }

    private static int backAndForth(Beaverhall x) {
        return Told.add(x, 'b', 3, 2, 1, 1, 2, 2, 10, 10);
    }

    private static void lastOfTheCalls() {
        Document.says(TERMS, "An object is used for at most 512 calls after it has been made");
        Beaverhall x = new Beaverhall();
        for (int i = 0; i < 16; i++) {
            x.machine(i % 2 == 0 ? 'b' : 'o', 6, 4);
        }
        for (int i = 0; i < 200; i++) {
            x.order(0, i % 6, i % 4, i % 4, i % 3 == 0 ? 'l' : 'r', (i + 1) % 6);
        }
        for (int i = 0; i < 12; i++) {
            x.count('+', 0, (i + 1) % 12, 0);
        }
        for (int i = 216; i < 216 + 280; i += 4) {
            x.listed(2, 1 + i % 100, 'h');
            x.decide(0, 'n', 3);
            x.isSound();
            x.run(0, 5000);
        }
        // 508 calls were made.
        Due.is("the 509th call", x.runCounters(7, 0, 5000), 5000);
        Due.is("the 510th call", x.register(0), 5007);
        Due.is("the 511th call", x.listed(2, 100, 's'), 5);
        Due.full("the 512th call", () -> x.machine('b', 1, 2));
    }

    private static void noVerdictWithoutACertificate() {
        Document.says(TERMS, "No verdict stands without a certificate that passes.");
        char[] letters = {'h', 'c', 't', 'b', 'n'};
        for (char letter : letters) {
            Beaverhall x = new Beaverhall();
            Told.beaver2(x);
            Told.swing(x, 'b');
            Told.walkRight(x, 'b');
            Told.walkLeft(x, 'b');
            int found = 0;
            for (int machine = 0; machine < 4; machine++) {
                int number = machine;
                boolean finds = x.decide(machine, letter, letter == 'n' ? 3 : 8);
                found += finds ? 1 : 0;
                Due.is(letter + " passes", x.passes(machine), finds);
                if (finds) {
                    Due.is(letter + " is its decider", x.certificate(machine, 'd'), letter);
                } else {
                    Due.is(letter + " found nothing", x.verdict(machine), '?');
                    Due.missing(letter + " found nothing", () -> x.certificate(number, 'd'));
                }
            }
            Due.is(letter + " found some", found > 0, true);
        }
    }

    private static void numbersOfMachines() {
        Document.says(TERMS, "At most 16 machines are numbered from 0");
        Beaverhall x = new Beaverhall();
        Due.is("the first", x.machine('b', 2, 2), 0);
        for (int i = 1; i < 15; i++) {
            Due.is("one more", i % 3 == 0 ? x.copy(0) : i % 3 == 1 ? x.champion(1, 1) : x.machine('o', 1, 2), i);
        }
        Due.outside("the 16th is not there yet", () -> x.verdict(15));
        Due.is("the 16th", x.champion(2, 100), 15);
        Due.is("the 16th is there", x.run(15, 100), 5);
        Due.full("no 17th by machine", () -> x.machine('b', 1, 2));
        Due.full("no 17th by copy", () -> x.copy(15));
        Due.full("no 17th by champion", () -> x.champion(2, 100));
        Due.outside("the 17th is not there", () -> x.verdict(16));
        Due.is("16 holdouts", x.holdouts(), 16);
    }

    private static void sizesOfMachines() {
        Document.says(TERMS, "each with 1 to 6 states and 2 to 4 signs, both numbered from 0");
        for (int states = 1; states <= 6; states++) {
            for (int signs = 2; signs <= 4; signs++) {
                Beaverhall x = new Beaverhall();
                int s = states;
                int g = signs;
                x.machine('b', states, signs);
                Due.is("orders that are missing", x.ways(0, 0), states * signs);
                Due.is("the last state and sign", x.order(0, s - 1, g - 1, g - 1, 'r', s - 1), 1);
                Due.is("the first state and sign", x.order(0, 0, 0, 0, 'l', 0), 2);
                Due.bad("a state more", () -> x.order(0, s, g - 1, g - 1, 'r', s - 1));
                Due.bad("a sign more", () -> x.order(0, s - 1, g, g - 1, 'r', s - 1));
                Due.bad("a sign more to write", () -> x.order(0, s - 1, g - 1, g, 'r', s - 1));
                Due.bad("a next state more", () -> x.order(0, s - 1, g - 1, g - 1, 'r', s));
                Due.is("untell of the last", x.untell(0, s - 1, g - 1), 1);
                Due.is("untell of the first", x.untell(0, 0, 0), 0);
            }
        }
    }

    private static void tapes() {
        Document.says(TERMS, "and a tape, 'b' without ends, or 'o' with one end, on the left of the cell 0");
        Beaverhall x = new Beaverhall();
        Told.walkLeft(x, 'b');
        Told.walkLeft(x, 'o');
        Told.walkRight(x, 'o');
        Due.is("no end on the left", x.run(0, 2), 2);
        Due.is("no end on the left", x.ran(0, 'c'), -2);
        Due.is("an end on the left", x.run(1, 2), 1);
        Due.is("an end on the left", x.ran(1, 'c'), 0);
        Due.is("no end on the right", x.run(2, 2), 2);
        Due.is("no end on the right", x.hasHalted(2), false);
    }

    private static void ordersThatAreNotTold() {
        Document.says(TERMS, "An order, for a state and a sign, tells a sign to write, a move, and the next state; "
                + "orders that are not told halt.");
        Beaverhall x = new Beaverhall();
        Told.add(x, 'b', 3, 3, 212, -1, 100, 0, -1, -1, 210, -1, -1);
        // 2 at 0, right, state 2; 2 at 1, right, state 0; 2 at 2, right, state 2; ... without end
        Due.is("all orders that it needs are told", x.run(0, 100), 100);
        x.untell(0, 2, 0);
        Due.is("one is not told", x.run(0, 100), 1);
        Due.is("it halts", x.hasHalted(0), true);
        Due.is("in its state", x.ran(0, 's'), 2);
        Due.is("on its cell", x.ran(0, 'c'), 1);
        x.order(0, 2, 0, 1, 'l', 0);
        // Back to 0, whose 2 becomes 1, then to -1, and in the state 2 to 0 again, where its order for 1 is not told.
        Due.is("told to go back", x.run(0, 100), 4);
        Due.is("told sign", x.signAt(0, 1), 1);
        Due.is("told sign in place of one before", x.signAt(0, 0), 1);
        Due.is("told sign on the way back", x.signAt(0, -1), 2);
        Due.is("it halts for another sign", x.hasHalted(0), true);
        Due.is("in its state", x.ran(0, 's'), 2);
        Due.is("on its cell", x.ran(0, 'c'), 0);
    }

    private static void beginsAnew() {
        Document.says(TERMS, "A run begins in the state 0 on the cell 0, all signs being 0.");
        Beaverhall x = new Beaverhall();
        Told.beaver2(x);
        for (int i = 0; i < 3; i++) {
            Due.is("no step", x.run(0, 0), 0);
            Due.is("state", x.ran(0, 's'), 0);
            Due.is("cell", x.ran(0, 'c'), 0);
            Due.is("marks", x.ran(0, 'm'), 0);
            for (int cell = -3; cell <= 3; cell++) {
                Due.is("sign", x.signAt(0, cell), 0);
            }
            Due.is("a run", x.run(0, 5), 5);
            Due.is("marks", x.ran(0, 'm'), 4);
        }
        Due.is("a run in between by runs", x.printByRuns(0, 0), 31L * 31 * 31 * 7);
        Due.is("a run in between by runs", x.printByRuns(0, 0), 31L * 31 * 31 * 7);
    }

    private static void haltIsNoStep() {
        Document.says(TERMS, "without one the machine halts, and this is no step");
        Beaverhall x = new Beaverhall();
        x.machine('b', 1, 2);
        Due.is("no order at all", x.run(0, 5000), 0);
        Due.is("it has halted", x.hasHalted(0), true);
        Due.is("it visited one cell", x.ran(0, 'p'), 1);
        Told.add(x, 'b', 2, 2, 111, -1, -1, -1);
        Due.is("one order", x.run(1, 5000), 1);
        Due.is("it has halted", x.hasHalted(1), true);
        Due.is("h counts alike", x.decide(1, 'h', 5000), true);
        Due.is("h counts alike", x.certificate(1, 'a'), 1);
    }

    private static void haltedBehindAsManyStepsAsTold() {
        Document.says(TERMS, "so it has halted, too, if it did as many steps as told and there is none for it then");
        Beaverhall x = new Beaverhall();
        x.machine('b', 1, 2);
        x.run(0, 0);
        Due.is("behind no step of none", x.hasHalted(0), true);
        Told.beaver2(x);
        x.run(1, 4);
        Due.is("behind 4 of 5", x.hasHalted(1), false);
        x.run(1, 5);
        Due.is("behind 5 of 5", x.hasHalted(1), true);
        x.run(1, 6);
        Due.is("behind 5 of 6", x.hasHalted(1), true);
        haltsBehind5000(x, 2);
        Due.is("4999 of 5000", x.run(2, 4999), 4999);
        Due.is("4999 of 5000", x.hasHalted(2), false);
        Due.is("5000 of 5000", x.run(2, 5000), 5000);
        Due.is("5000 of 5000", x.hasHalted(2), true);
        Due.is("h of 4999", x.decide(2, 'h', 4999), false);
        Due.is("h of 5000", x.decide(2, 'h', 5000), true);
        Due.is("h of 5000", x.certificate(2, 'a'), 5000);
        Due.is("h of 5000 passes", x.passes(2), true);
        Due.is("forged to 4999", x.forge(2, 'a', 4999), 5000);
        Due.is("forged to 4999", x.passes(2), false);
        x.forge(2, 'a', 5000);
        Due.is("it is sound", x.isSound(), true);
        haltsBehind5001(x, 3);
        Due.is("5000 of 5001", x.run(3, 5000), 5000);
        Due.is("5000 of 5001", x.hasHalted(3), false);
        Due.is("h does not find 5001", x.decide(3, 'h', 5000), false);
    }

    private static void haltsBehind5000(Beaverhall x, int due) {
        Due.is("machine", Told.add(x, 'b', 6, 4, 304, 2, 212, -1, 202, 12, 114, 215, 213, 105, 15, 102, 302, 112, 311,
                310, 301, 101, 205, 111, 211, 301, 3, 300), due);
    }

    private static void haltsBehind5001(Beaverhall x, int due) {
        Due.is("machine", Told.add(x, 'b', 6, 4, 11, 303, 0, 310, 200, 11, 215, 111, 114, 300, 4, 300, 313, 302, 100,
                211, 203, 210, 105, -1, 301, 2, 11, 202), due);
    }

    private static void movesBeyondTheEnd() {
        Document.says(TERMS, "A move beyond the end is a step, behind which it halts, too, on the cell 0, "
                + "in the next state.");
        Beaverhall x = new Beaverhall();
        // At once, to a state that has orders for each sign; then behind three steps; then to its own state.
        Told.add(x, 'o', 2, 3, 201, 200, 200, 111, 111, 111);
        Told.add(x, 'o', 3, 2, 111, -1, 2, -1, 110, 102);
        Told.add(x, 'o', 1, 2, 0, 0);
        int[] steps = {1, 3, 1};
        int[] states = {1, 2, 0};
        int[] signs = {2, 1, 0};
        for (int machine = 0; machine < 3; machine++) {
            int due = steps[machine];
            Due.is("ahead of the last step", x.run(machine, due - 1), due - 1);
            Due.is("ahead of the last step", x.hasHalted(machine), false);
            for (int more : new int[] {due, due + 1, 5000}) {
                Due.is("it is a step", x.run(machine, more), due);
                Due.is("it has halted", x.hasHalted(machine), true);
                Due.is("on the cell 0", x.ran(machine, 'c'), 0);
                Due.is("in the next state", x.ran(machine, 's'), states[machine]);
                Due.is("its sign is written", x.signAt(machine, 0), signs[machine]);
                Due.is("nothing is left of the cell 0", x.ran(machine, 'l'), 0);
                Due.is("by runs", x.printByRuns(machine, more), x.print(machine));
            }
            Due.is("h of one less finds nothing", due > 1 && x.decide(machine, 'h', due - 1), false);
            Due.is("h", x.decide(machine, 'h', due), true);
            Due.is("h", x.certificate(machine, 'a'), due);
            Due.is("h passes", x.passes(machine), true);
            Due.is("c finds nothing", x.decide(machine, 'c', 500), false);
        }
        Due.is("all is sound", x.isSound(), true);
    }

    private static void movesBeyondTheLastCell() {
        Document.says(TERMS, "A tape without ends has the cells -500 to 500, one with an end 0 to 500; a step that "
                + "would move beyond the cell -500 or 500 is not done");
        Beaverhall x = new Beaverhall();
        // Two states in turns: on the cell 500, the state 0 would write 1 and go on in the state 1.
        Told.add(x, 'b', 2, 2, 111, 111, 10, 10);
        Told.add(x, 'o', 2, 2, 111, 111, 10, 10);
        Told.add(x, 'b', 2, 2, 101, 101, 0, 0);
        for (int machine = 0; machine < 3; machine++) {
            int side = machine == 2 ? -1 : 1;
            for (int steps : new int[] {500, 501, 502, 5000}) {
                Due.is("500 steps", x.run(machine, steps), 500);
                Due.is("cell", x.ran(machine, 'c'), 500 * side);
                Due.is("state stays", x.ran(machine, 's'), 0);
                Due.is("sign stays", x.signAt(machine, 500 * side), 0);
                Due.is("nothing behind it", x.signAt(machine, 501 * side), 0);
                Due.is("marks", x.ran(machine, 'm'), 250);
                Due.is("rows, the last two cells being alike", x.runsOf(machine), 500);
                Due.is("span", x.ran(machine, 'p'), 501);
                Due.is("it is at its bound", x.hasHalted(machine), false);
                Due.is("by runs", x.printByRuns(machine, steps), x.print(machine));
            }
            Due.is("h finds nothing", x.decide(machine, 'h', 5000), false);
            Due.is("c finds nothing", x.decide(machine, 'c', 500), false);
        }
    }

    private static void turnsOnTheLastCell() {
        Document.says(TERMS, "a step that would move beyond the cell -500 or 500 is not done: the run is at its bound");
        Beaverhall x = new Beaverhall();
        forthAndBack(x, 'b');
        forthAndBack(x, 'o');
        backAndForth(x);
        for (int machine = 0; machine < 3; machine++) {
            int side = machine == 2 ? -1 : 1;
            Due.is("to the last cell", x.run(machine, 1496), 1496);
            Due.is("to the last cell", x.ran(machine, 'c'), 500 * side);
            Due.is("a step back from it is done", x.run(machine, 1497), 1497);
            Due.is("a step back from it is done", x.ran(machine, 'c'), 499 * side);
            Due.is("it comes there again, and not beyond", x.run(machine, 5000), 1498);
            Due.is("it comes there again, and not beyond", x.ran(machine, 'c'), 500 * side);
            Due.is("state", x.ran(machine, 's'), 1);
            Due.is("it is at its bound", x.hasHalted(machine), false);
            Due.is("by runs", x.printByRuns(machine, 5000), x.print(machine));
        }
        // The same, but that each step back writes 1: it stands on the last cell too.
        Told.add(x, 'b', 3, 2, 11, 11, 12, 12, 100, 100);
        Told.add(x, 'b', 3, 2, 1, 1, 2, 2, 110, 110);
        for (int machine = 3; machine < 5; machine++) {
            int last = machine == 3 ? 500 : -500;
            x.run(machine, 1496);
            Due.is("not written yet", x.signAt(machine, last), 0);
            Due.is("marks", x.ran(machine, 'm'), 0);
            x.run(machine, 1497);
            Due.is("written on the last cell", x.signAt(machine, last), 1);
            Due.is("marks", x.ran(machine, 'm'), 1);
            Due.is("by runs", x.printByRuns(machine, 1497), x.print(machine));
            Due.is("read there, with an order that would move beyond it", x.run(machine, 5000), 1498);
            Due.is("the 1 stays", x.signAt(machine, last), 1);
            Due.is("rows", x.runsOf(machine), 2);
            Due.is("it is at its bound", x.hasHalted(machine), false);
        }
    }

    private static void boundOfSteps() {
        Document.says(TERMS, "the run is at its bound, and so it is after as many steps as told");
        Beaverhall x = new Beaverhall();
        Told.swing(x, 'b');
        for (int steps : new int[] {0, 1, 2, 4999, 5000}) {
            Due.is("as many as told", x.run(0, steps), steps);
            Due.is("at its bound", x.hasHalted(0), false);
            Due.is("cell", x.ran(0, 'c'), steps % 2);
        }
    }

    private static void marks() {
        Document.says(TERMS, "The marks are the cells that are not 0");
        Beaverhall x = new Beaverhall();
        Told.add(x, 'b', 6, 4, 311, -1, -1, -1, 12, -1, -1, -1, 213, -1, -1, -1, 114, -1, -1, -1);
        int[] due = {0, 1, 1, 2, 3};
        for (int steps = 0; steps <= 4; steps++) {
            x.run(0, steps);
            Due.is("marks of the signs 3, 0, 2, 1", x.ran(0, 'm'), due[steps]);
        }
        // 1 is written, then 0 in its place.
        Told.add(x, 'b', 2, 2, 111, 1, 0, -1);
        x.run(1, 2);
        Due.is("a mark", x.ran(1, 'm'), 1);
        x.run(1, 3);
        Due.is("a mark that was taken away", x.ran(1, 'm'), 0);
        Told.walkRight(x, 'o');
        x.run(2, 5000);
        Due.is("500 marks", x.ran(2, 'm'), 500);
        Due.is("the last cell is none", x.signAt(2, 500), 0);
    }

    private static void span() {
        Document.says(TERMS, "the span is the number of cells that were visited, the first one too");
        Beaverhall x = new Beaverhall();
        Told.swing(x, 'b');
        for (int steps = 0; steps <= 3; steps++) {
            x.run(0, steps);
            Due.is("span to and fro", x.ran(0, 'p'), steps == 0 ? 1 : 2);
        }
        Told.add(x, 'b', 6, 2, 1, -1, 2, -1, 3, -1, 4, -1, 5, -1, 15, -1);
        Due.is("5 to the left, then to the right", x.run(1, 5000), 510);
        Due.is("l", x.ran(1, 'l'), -5);
        Due.is("r", x.ran(1, 'r'), 500);
        Due.is("span", x.ran(1, 'p'), 506);
        Due.is("c", x.ran(1, 'c'), 500);
        Due.is("by runs", x.printByRuns(1, 5000), x.print(1));
    }

    private static void ordersTakeAway() {
        Document.says(TERMS, "To tell an order, also as it is already, or to take one away, takes the verdict of a "
                + "machine, and its last run, away.");
        for (int way = 0; way < 4; way++) {
            Beaverhall x = new Beaverhall();
            Told.beaver2(x);
            Told.beaver2(x);
            for (int machine = 0; machine < 2; machine++) {
                x.run(machine, 5);
                x.decide(machine, 'h', 5);
            }
            switch (way) {
                case 0 -> x.order(0, 1, 1, 0, 'l', 0);
                case 1 -> x.order(0, 0, 0, 1, 'r', 1);
                case 2 -> x.order(0, 0, 0, 1, 'l', 1);
                default -> x.untell(0, 0, 0);
            }
            Due.is("no verdict", x.verdict(0), '?');
            Due.is("none passes", x.passes(0), false);
            Due.missing("no certificate", () -> x.certificate(0, 'a'));
            Due.missing("no certificate to forge", () -> x.forge(0, 'a', 0));
            Due.missing("no run", () -> x.hasHalted(0));
            Due.missing("no run", () -> x.ran(0, 's'));
            Due.missing("no run", () -> x.signAt(0, 0));
            Due.missing("no run", () -> x.print(0));
            Due.missing("no run", () -> x.runsOf(0));
            Due.is("the other machine's verdict stays", x.verdict(1), 'H');
            Due.is("the other machine's run stays", x.hasHalted(1), true);
        }
    }

    /** The print by whole numbers without bounds, taken to 64 bits at its end. */
    private static long print(int state, int cell, int[] signs) {
        BigInteger sum = BigInteger.valueOf(7);
        BigInteger by = BigInteger.valueOf(31);
        sum = sum.multiply(by).add(BigInteger.valueOf(state));
        sum = sum.multiply(by).add(BigInteger.valueOf(cell));
        for (int sign : signs) {
            sum = sum.multiply(by).add(BigInteger.valueOf(sign));
        }
        return sum.longValue();
    }

    private static void prints() {
        Document.says(TERMS, "The print of a run is 7 at first, then 31 times itself plus the state, then 31 times itself "
                + "plus the cell, then, for each cell from the leftmost visited one to the rightmost one, 31 times "
                + "itself plus its sign.");
        Beaverhall x = new Beaverhall();
        Told.walkRight(x, 'b');
        Told.walkLeft(x, 'b');
        int[] right = new int[501];
        int[] left = new int[501];
        for (int i = 0; i < 501; i++) {
            right[i] = i < 500 ? 1 : 0;
            left[i] = i > 0 ? 1 : 0;
        }
        x.run(0, 5000);
        Due.is("501 cells, with the wrap-around", x.print(0), print(0, 500, right));
        x.run(1, 5000);
        Due.is("501 cells, a cell below 0", x.print(1), print(0, -500, left));
        Told.add(x, 'b', 6, 4, 315, -1, -1, -1, -1, -1, -1, -1, -1, -1, -1, -1, -1, -1, -1, -1, -1, -1, -1, -1, 5);
        x.run(2, 0);
        Due.is("one cell", x.print(2), print(0, 0, new int[] {0}));
        x.run(2, 1);
        Due.is("two cells", x.print(2), print(5, 1, new int[] {3, 0}));
        x.run(2, 2);
        Due.is("back on a cell whose order is not told", x.print(2), print(5, 0, new int[] {3, 0}));
    }

    private static void runsByRuns() {
        Document.says(TERMS, "A run by runs keeps the tape as rows of like signs with their lengths; what it comes to "
                + "is the same.");
        Beaverhall x = new Beaverhall();
        Told.walkRight(x, 'o');
        Told.walkLeft(x, 'o');
        Told.walkLeft(x, 'b');
        forthAndBack(x, 'b');
        backAndForth(x);
        Told.add(x, 'b', 2, 2, 111, 111, 10, 10);
        haltsBehind5000(x, 6);
        haltsBehind5001(x, 7);
        x.machine('b', 1, 2);
        for (int machine = 0; machine < 9; machine++) {
            for (int steps : new int[] {0, 1, 2, 3, 499, 500, 501, 1498, 1499, 4999, 5000}) {
                x.run(machine, steps);
                Due.is("by runs " + machine + " " + steps, x.printByRuns(machine, steps), x.print(machine));
            }
        }
    }

    private static void fourWorkers() {
        Document.says(TERMS, "At most 4 workers, numbered from 0, tell verdicts 'H' or 'N' on machines, without "
                + "certificates, each the last one told.");
        Beaverhall x = new Beaverhall();
        Told.swing(x, 'b');
        for (int worker = 0; worker < 4; worker++) {
            Due.is("worker " + worker, x.tell(worker, 0, 'H'), worker + 1);
        }
        Due.bad("no worker 4", () -> x.tell(4, 0, 'H'));
        Due.bad("no worker -1", () -> x.tell(-1, 0, 'H'));
        Due.is("they tell without certificates", x.verdict(0), '?');
        Due.missing("they tell without certificates", () -> x.certificate(0, 'd'));
        Due.is("all alike", x.isDisputed(0), false);
        Due.is("another one than before", x.tell(3, 0, 'N'), 4);
        Due.is("one unlike", x.isDisputed(0), true);
        Due.is("again as at first", x.tell(3, 0, 'H'), 4);
        Due.is("the last one told counts", x.isDisputed(0), false);
    }

    private static void disputes() {
        Document.says(TERMS, "A machine is disputed if two told it unlike, or one told unlike its verdict, whether that "
                + "passes or not.");
        for (char verdict : new char[] {'H', 'N'}) {
            char other = verdict == 'H' ? 'N' : 'H';
            Beaverhall x = new Beaverhall();
            Told.beaver2(x);
            Told.swing(x, 'b');
            Told.swing(x, 'b');
            int machine = verdict == 'H' ? 0 : 1;
            Due.is("found", x.decide(machine, verdict == 'H' ? 'h' : 'c', 10), true);
            Due.is("nobody told", x.isDisputed(machine), false);
            x.tell(2, machine, verdict);
            Due.is("told as the verdict", x.isDisputed(machine), false);
            x.tell(2, machine, other);
            Due.is("told unlike the verdict", x.isDisputed(machine), true);
            x.forge(machine, 'b', 0);
            Due.is("the verdict does not pass", x.passes(machine), false);
            Due.is("whether that passes or not", x.isDisputed(machine), true);
            x.tell(2, machine, verdict);
            Due.is("whether that passes or not", x.isDisputed(machine), false);
            x.tell(0, 2, verdict);
            Due.is("one alone, without a verdict", x.isDisputed(2), false);
            x.tell(3, 2, verdict);
            Due.is("two told it alike", x.isDisputed(2), false);
            x.tell(3, 2, other);
            Due.is("two told it unlike", x.isDisputed(2), true);
        }
    }

    private static void holdouts() {
        Document.says(TERMS, "A holdout is a machine without a verdict that passes the checker.");
        Beaverhall x = new Beaverhall();
        Due.is("no machine", x.holdouts(), 0);
        Told.beaver2(x);
        Told.swing(x, 'b');
        Due.is("without verdicts", x.holdouts(), 2);
        x.tell(0, 0, 'H');
        Due.is("what workers tell is none", x.holdouts(), 2);
        x.decide(0, 'h', 5);
        Due.is("a verdict that passes", x.holdouts(), 1);
        Due.is("the other one", x.holdoutAt(0), 1);
        x.forge(0, 'a', 4);
        Due.is("a verdict that does not pass", x.holdouts(), 2);
        Due.is("a verdict that does not pass", x.holdoutAt(0), 0);
        x.forge(0, 'a', 5);
        x.decide(1, 'c', 2);
        Due.is("all pass", x.holdouts(), 0);
        x.order(1, 0, 1, 0, 'r', 0);
        Due.is("a verdict that was taken away", x.holdouts(), 1);
    }
}
