/** Promises 1 to 12: machines, their orders and runs. */
public final class MachineTest {
    public static void main(String[] args) {
        newObject();
        addsMachines();
        tellsOrders();
        takesOrdersAway();
        copies();
        runsPlainly();
        runsToTheBounds();
        fallsFromTheEnd();
        looksAtRuns();
        forgetsRuns();
        refusesWithoutRun();
        printsByRuns();
        Due.end();
    }

    private static void newObject() {
        Beaverhall x = new Beaverhall();
        Due.outside("no machine at first", () -> x.verdict(0));
        Due.is("no order of counters at first", x.uncount(), 0);
        Due.is("no tag at first", x.untag(), 0);
        Due.is("no fraction at first", x.unwalk(), 0);
        Due.is("holdouts at first", x.holdouts(), 0);
        Due.is("checksum at first", x.checksum(), 7);
        Due.is("isSound at first", x.isSound(), true);
        Beaverhall y = new Beaverhall();
        Told.beaver2(x);
        Due.outside("another hall has its own machines", () -> y.verdict(0));
    }

    private static void addsMachines() {
        Beaverhall x = new Beaverhall();
        for (char tape : new char[] {'a', 'B', 'O', 0, 'c', (char) 65535}) {
            Due.bad("machine tape " + tape, () -> x.machine(tape, 1, 2));
        }
        for (int states : new int[] {Integer.MIN_VALUE, -1, 0, 7, Integer.MAX_VALUE}) {
            Due.bad("machine states " + states, () -> x.machine('b', states, 2));
        }
        for (int signs : new int[] {Integer.MIN_VALUE, -1, 0, 1, 5, Integer.MAX_VALUE}) {
            Due.bad("machine signs " + signs, () -> x.machine('o', 1, signs));
        }
        Due.is("least", x.machine('b', 1, 2), 0);
        Due.is("greatest", x.machine('o', 6, 4), 1);
        for (int i = 2; i < 16; i++) {
            Due.is("machine", x.machine('b', 6, 4), i);
        }
        Due.full("a 17th", () -> x.machine('b', 1, 2));
        Due.bad("a wrong 17th", () -> x.machine('b', 0, 2));
        Due.bad("a wrong 17th", () -> x.machine('x', 1, 2));
        Due.is("the last one", x.order(15, 5, 3, 3, 'r', 5), 1);
        Due.outside("no 17th", () -> x.verdict(16));
    }

    private static void tellsOrders() {
        Beaverhall x = new Beaverhall();
        x.machine('b', 2, 3);
        Due.outside("order of no machine", () -> x.order(1, 9, 9, 9, 'x', 9));
        Due.outside("order of no machine", () -> x.order(-1, 0, 0, 0, 'l', 0));
        for (int wrong : new int[] {Integer.MIN_VALUE, -1, 3, Integer.MAX_VALUE}) {
            Due.bad("state", () -> x.order(0, wrong == 3 ? 2 : wrong, 0, 0, 'l', 0));
            Due.bad("sign", () -> x.order(0, 0, wrong, 0, 'l', 0));
            Due.bad("write", () -> x.order(0, 0, 0, wrong, 'l', 0));
            Due.bad("next", () -> x.order(0, 0, 0, 0, 'l', wrong == 3 ? 2 : wrong));
        }
        Due.bad("move", () -> x.order(0, 0, 0, 0, 'L', 0));
        Due.bad("move", () -> x.order(0, 0, 0, 0, 'h', 0));
        Due.is("what is refused changes nothing", x.ways(0, 0), 6);
        int count = 0;
        for (int state = 0; state < 2; state++) {
            for (int sign = 0; sign < 3; sign++) {
                count++;
                Due.is("order", x.order(0, state, sign, 2, 'r', 1), count);
            }
        }
        Due.is("order in place of one before", x.order(0, 1, 2, 0, 'l', 0), 6);
        Due.is("order as it is already", x.order(0, 1, 2, 0, 'l', 0), 6);
    }

    private static void takesOrdersAway() {
        Beaverhall x = new Beaverhall();
        Told.beaver2(x);
        Due.outside("untell of no machine", () -> x.untell(1, 9, 9));
        Due.bad("untell state", () -> x.untell(0, 2, 0));
        Due.bad("untell state", () -> x.untell(0, -1, 0));
        Due.bad("untell sign", () -> x.untell(0, 0, 2));
        Due.bad("untell sign", () -> x.untell(0, 0, -1));
        Due.missing("untell what is not told", () -> x.untell(0, 1, 1));
        Due.is("untell", x.untell(0, 0, 1), 2);
        Due.missing("untell again", () -> x.untell(0, 0, 1));
        Due.is("run without it", x.run(0, 100), 2);
        Due.is("order again", x.order(0, 0, 1, 1, 'l', 1), 3);
        Due.is("run with it", x.run(0, 100), 5);
        Due.is("untell", x.untell(0, 0, 0), 2);
        Due.is("untell", x.untell(0, 0, 1), 1);
        Due.is("untell", x.untell(0, 1, 0), 0);
        Due.is("run without orders", x.run(0, 100), 0);
    }

    private static void copies() {
        Beaverhall x = new Beaverhall();
        Due.outside("copy of no machine", () -> x.copy(0));
        Told.beaver2(x);
        x.run(0, 100);
        x.decide(0, 'h', 100);
        x.tell(0, 0, 'N');
        Due.is("copy", x.copy(0), 1);
        Due.is("the copy has no verdict", x.verdict(1), '?');
        Due.is("the other one has its own still", x.verdict(0), 'H');
        Due.missing("the copy was not run", () -> x.hasHalted(1));
        Due.is("no worker told on the copy", x.tell(1, 1, 'H'), 1);
        Due.is("the copy's run", x.run(1, 100), 5);
        x.untell(1, 1, 0);
        Due.is("the other one is as it was", x.run(0, 100), 5);
        Due.is("the other one's verdict stays", x.verdict(0), 'H');
        x.machine('o', 6, 4);
        Due.is("copy of one with an end", x.copy(2), 3);
        Due.unsupported("it has an end too", () -> x.decide(3, 't', 1));
        Due.is("it is as large", x.order(3, 5, 3, 3, 'l', 5), 1);
        for (int i = 4; i < 16; i++) {
            Due.is("copy", x.copy(0), i);
        }
        Due.full("a 17th", () -> x.copy(0));
        Due.outside("copy of no machine, in a full hall", () -> x.copy(16));
        Due.outside("copy of no machine, in a full hall", () -> x.copy(-1));
    }

    private static void runsPlainly() {
        Beaverhall x = new Beaverhall();
        Due.outside("run of no machine", () -> x.run(0, -1));
        Told.beaver2(x);
        Due.bad("steps -1", () -> x.run(0, -1));
        Due.bad("steps 5001", () -> x.run(0, 5001));
        Due.missing("what is refused is no run", () -> x.hasHalted(0));
        int[] cells = {0, 1, 0, -1, -2, -1};
        for (int steps = 0; steps <= 5; steps++) {
            Due.is("run", x.run(0, steps), steps);
            Due.is("cell", x.ran(0, 'c'), cells[steps]);
            Due.is("halted just behind 5 steps as told", x.hasHalted(0), steps == 5);
        }
        Due.is("greatest", x.run(0, 5000), 5);
        Due.bad("steps 5001", () -> x.run(0, 5001));
        Due.is("the run before stays", x.hasHalted(0), true);
        Told.beaver5(x);
        Due.is("5 states", x.run(1, 5000), 5000);
        Due.is("5 states have not halted", x.hasHalted(1), false);
        x.machine('b', 1, 2);
        Due.is("without orders", x.run(2, 0), 0);
        Due.is("without orders", x.hasHalted(2), true);
        Due.is("span of no step", x.ran(2, 'p'), 1);
        Due.is("print of no step", x.print(2), 31 * 31 * 31 * 7L);
    }

    private static void runsToTheBounds() {
        Beaverhall x = new Beaverhall();
        Told.walkRight(x, 'b');
        Told.walkLeft(x, 'b');
        Told.walkRight(x, 'o');
        for (int machine = 0; machine < 3; machine++) {
            int side = machine == 1 ? -1 : 1;
            Due.is("run", x.run(machine, 499), 499);
            Due.is("cell", x.ran(machine, 'c'), 499 * side);
            Due.is("run", x.run(machine, 500), 500);
            Due.is("cell", x.ran(machine, 'c'), 500 * side);
            Due.is("at its bound", x.hasHalted(machine), false);
            Due.is("run", x.run(machine, 501), 500);
            Due.is("cell", x.ran(machine, 'c'), 500 * side);
            Due.is("sign of the last cell", x.signAt(machine, 500 * side), 0);
            Due.is("sign ahead of it", x.signAt(machine, 499 * side), 1);
            Due.is("at its bound", x.hasHalted(machine), false);
            Due.is("print", x.printByRuns(machine, 5000), x.print(machine));
            Due.is("span", x.ran(machine, 'p'), 501);
            Due.is("h finds nothing at the bound", x.decide(machine, 'h', 5000), false);
        }
    }

    private static void fallsFromTheEnd() {
        Beaverhall x = new Beaverhall();
        Told.add(x, 'o', 3, 4, 302, -1, -1, -1, -1, -1, -1, -1, 111, 111, 111, 111);
        Due.is("a move beyond the end is a step", x.run(0, 1), 1);
        Due.is("behind which it halts", x.hasHalted(0), true);
        Due.is("on the cell 0", x.ran(0, 'c'), 0);
        Due.is("in the next state", x.ran(0, 's'), 2);
        Due.is("and it wrote", x.signAt(0, 0), 3);
        Due.is("span", x.ran(0, 'p'), 1);
        Due.is("more steps", x.run(0, 5000), 1);
        Due.is("print", x.print(0), 31 * (31 * (31 * 7 + 2)) + 3);
        Due.is("print by runs", x.printByRuns(0, 5000), x.print(0));
        Due.is("no step", x.run(0, 0), 0);
        Due.is("at its bound", x.hasHalted(0), false);
        Due.is("h", x.decide(0, 'h', 1), true);
        Due.is("h a", x.certificate(0, 'a'), 1);
        Due.is("h b", x.certificate(0, 'b'), 1);
        Told.add(x, 'o', 1, 2, 0, 0);
        Due.is("as at first, but halted", x.run(1, 10), 1);
        Due.is("as at first, but halted", x.hasHalted(1), true);
        Due.is("it never comes back", x.decide(1, 'c', 500), false);
        Due.is("a machine without ends does not fall", x.run(Told.walkLeft(x, 'b'), 10), 10);
    }

    private static void looksAtRuns() {
        Beaverhall x = new Beaverhall();
        Told.beaver2(x);
        x.run(0, 5);
        Due.is("s", x.ran(0, 's'), 1);
        Due.is("c", x.ran(0, 'c'), -1);
        Due.is("m", x.ran(0, 'm'), 4);
        Due.is("p", x.ran(0, 'p'), 4);
        Due.is("l", x.ran(0, 'l'), -2);
        Due.is("r", x.ran(0, 'r'), 1);
        for (int cell = -4; cell <= 4; cell++) {
            Due.is("signAt " + cell, x.signAt(0, cell), cell >= -2 && cell <= 1 ? 1 : 0);
        }
        for (int cell : new int[] {Integer.MIN_VALUE, -501, -500, 500, 501, Integer.MAX_VALUE}) {
            Due.is("signAt " + cell, x.signAt(0, cell), 0);
        }
        Due.is("runsOf", x.runsOf(0), 1);
        long print = 7;
        for (int number : new int[] {1, -1, 1, 1, 1, 1}) {
            print = 31 * print + number;
        }
        Due.is("print", x.print(0), print);
        Told.add(x, 'b', 2, 3, 11, -1, -1, 210, -1, -1);
        x.run(1, 4);
        Due.is("rows 0 2 0 2 0", x.runsOf(1), 5);
        Due.is("marks", x.ran(1, 'm'), 2);
        x.run(1, 0);
        Due.is("one cell, one row", x.runsOf(1), 1);
        Due.is("a run anew clears the tape", x.signAt(1, 1), 0);
        Due.is("a run anew has its own span", x.ran(1, 'p'), 1);
    }

    private static void forgetsRuns() {
        Beaverhall x = new Beaverhall();
        Told.beaver2(x);
        Told.beaver2(x);
        x.run(0, 5);
        x.run(1, 5);
        x.decide(0, 'h', 5);
        x.decide(1, 'h', 5);
        Due.bad("refused order", () -> x.order(0, 0, 0, 1, 'r', 2));
        Due.missing("refused untell", () -> x.untell(0, 1, 1));
        Due.is("refused calls take nothing away", x.hasHalted(0), true);
        Due.is("refused calls take nothing away", x.verdict(0), 'H');
        x.order(0, 0, 0, 1, 'r', 1);
        Due.missing("an order as it is already takes the run", () -> x.hasHalted(0));
        Due.is("and the verdict", x.verdict(0), '?');
        Due.is("of its machine alone", x.hasHalted(1), true);
        Due.is("of its machine alone", x.verdict(1), 'H');
        x.run(0, 5);
        x.decide(0, 'h', 5);
        x.untell(0, 0, 0);
        Due.missing("untell takes the run", () -> x.print(0));
        Due.is("and the verdict", x.verdict(0), '?');
    }

    private static void refusesWithoutRun() {
        Beaverhall x = new Beaverhall();
        Told.beaver2(x);
        for (int machine : new int[] {Integer.MIN_VALUE, -1, 1, 16, Integer.MAX_VALUE}) {
            Due.outside("hasHalted", () -> x.hasHalted(machine));
            Due.outside("ran", () -> x.ran(machine, 'x'));
            Due.outside("signAt", () -> x.signAt(machine, 0));
            Due.outside("print", () -> x.print(machine));
            Due.outside("printByRuns", () -> x.printByRuns(machine, -1));
            Due.outside("runsOf", () -> x.runsOf(machine));
            Due.outside("run", () -> x.run(machine, 0));
        }
        Due.missing("hasHalted", () -> x.hasHalted(0));
        Due.bad("ran x", () -> x.ran(0, 'x'));
        Due.missing("ran s", () -> x.ran(0, 's'));
        Due.missing("signAt", () -> x.signAt(0, 0));
        Due.missing("print", () -> x.print(0));
        Due.missing("runsOf", () -> x.runsOf(0));
        x.printByRuns(0, 5);
        x.decide(0, 'h', 5);
        Due.missing("neither a print by runs nor a decider is a run", () -> x.hasHalted(0));
        x.run(0, 2);
        x.decide(0, 'h', 5);
        Due.is("a decider leaves the last run", x.ran(0, 'c'), 0);
        Due.bad("ran x", () -> x.ran(0, 'x'));
        Due.bad("ran a", () -> x.ran(0, 'a'));
    }

    private static void printsByRuns() {
        Beaverhall x = new Beaverhall();
        Told.beaver5(x);
        Due.bad("steps -1", () -> x.printByRuns(0, -1));
        Due.bad("steps 5001", () -> x.printByRuns(0, 5001));
        x.run(0, 3);
        long print = x.print(0);
        long late = x.printByRuns(0, 5000);
        Due.is("the last run stays", x.print(0), print);
        Due.is("the last run stays", x.ran(0, 'p'), 4);
        x.run(0, 5000);
        Due.is("5000 steps by runs", late, x.print(0));
        for (int steps = 0; steps < 100; steps++) {
            x.run(0, steps);
            Due.is("by runs", x.printByRuns(0, steps), x.print(0));
        }
    }
}
