import java.math.BigInteger;

/** Each promise by its own lines: what it takes at its least and at its greatest, and what it returns then. */
public final class PromiseTest {
    public static void main(String[] args) {
        newHall();
        machine();
        order();
        untell();
        copy();
        run();
        hasHalted();
        ran();
        signAt();
        print();
        printByRuns();
        runsOf();
        decide();
        verdict();
        certificate();
        forge();
        passes();
        ways();
        listed();
        champion();
        haltingShare();
        record();
        tell();
        isDisputed();
        holdouts();
        count();
        runCounters();
        register();
        tagRow();
        tagStart();
        untag();
        tag();
        tagLetters();
        fraction();
        walk();
        meanMarks();
        checksum();
        isSound();
        Due.end();
    }

    private static void newHall() {
        Document.says(1, "Creates a hall without machines, orders of counters, tags and fractions.");
        Beaverhall x = new Beaverhall();
        Due.outside("no machine", () -> x.verdict(0));
        Due.is("no holdout", x.holdouts(), 0);
        Due.is("no order of counters", x.runCounters(1, 1, 5000), 0);
        Due.is("no order of counters", x.uncount(), 0);
        Due.is("no tag", x.tag(2, 2000), 0);
        Due.is("no tag", x.untag(), 0);
        Due.is("no fraction", x.walk(2, 5000), 2);
        Due.is("no fraction", x.unwalk(), 0);
        Due.is("the first machine", x.machine('b', 1, 2), 0);
        Due.outside("another hall has none", () -> new Beaverhall().verdict(0));
    }

    private static void machine() {
        Document.says(2, "Adds a machine without orders.");
        Document.says(2, "tape: b without ends, o with one");
        Document.says(2, "states: how many states");
        Document.says(2, "signs: how many signs");
        Document.says(2, "Returns its number.");
        Beaverhall x = new Beaverhall();
        int[][] sizes = {{1, 2}, {1, 4}, {6, 2}, {6, 4}};
        for (int i = 0; i < 16; i++) {
            int[] size = sizes[i % 4];
            Due.is("its number", x.machine(i < 8 ? 'b' : 'o', size[0], size[1]), i);
            Due.is("no orders", x.ways(i, 0), size[0] * size[1]);
            Due.is("no verdict", x.verdict(i), '?');
            Due.is("its first order", x.order(i, size[0] - 1, size[1] - 1, 0, 'l', 0), 1);
        }
        for (int i = 0; i < 16; i++) {
            int number = i;
            if (i < 8) {
                Due.is("without ends", x.decide(i, 't', 1), false);
            } else {
                Due.unsupported("with one", () -> x.decide(number, 't', 1));
            }
        }
    }

    private static void order() {
        Document.says(3, "Tells an order, in place of one before.");
        Document.says(3, "write: the sign to write");
        Document.says(3, "move: l to the left, r to the right");
        Document.says(3, "next: the next state");
        Document.says(3, "Returns how many orders the machine has.");
        Beaverhall x = new Beaverhall();
        x.machine('b', 6, 4);
        for (int i = 0; i < 24; i++) {
            Due.is("one order more", x.order(0, i / 4, i % 4, 3 - i % 4, 'l', 5 - i / 4), i + 1);
        }
        for (int i = 0; i < 24; i++) {
            Due.is("in place of one before", x.order(0, i / 4, i % 4, i % 4, 'r', i / 4), 24);
        }
        long sum = 7;
        for (int i = 0; i < 24; i++) {
            sum = 31 * sum + 1 + i % 4 + 4 * (i / 4) + 40;
        }
        Due.is("the later ones stand", x.checksum(), sum);
        x.order(0, 0, 0, 3, 'l', 5);
        x.run(0, 1);
        Due.is("the sign to write", x.signAt(0, 0), 3);
        Due.is("l to the left", x.ran(0, 'c'), -1);
        Due.is("the next state", x.ran(0, 's'), 5);
        x.order(0, 0, 0, 0, 'r', 0);
        x.run(0, 1);
        Due.is("the sign to write", x.signAt(0, 0), 0);
        Due.is("r to the right", x.ran(0, 'c'), 1);
        Due.is("the next state", x.ran(0, 's'), 0);
    }

    private static void untell() {
        Document.says(4, "Takes an order away.");
        Document.says(4, "Returns how many orders the machine has.");
        Beaverhall x = new Beaverhall();
        x.machine('b', 6, 4);
        for (int i = 0; i < 24; i++) {
            x.order(0, i / 4, i % 4, 0, 'l', 0);
        }
        for (int i = 23; i >= 0; i--) {
            int place = i;
            Due.is("one order less", x.untell(0, i / 4, i % 4), i);
            Due.missing("not told any more", () -> x.untell(0, place / 4, place % 4));
        }
        Due.is("none is left", x.ways(0, 0), 24);
        Due.is("none is left", x.order(0, 5, 3, 0, 'l', 0), 1);
    }

    private static void copy() {
        Document.says(5, "Adds a machine with the same orders, without its verdict.");
        Document.says(5, "Returns its number.");
        Beaverhall x = new Beaverhall();
        Told.beaver2(x);
        x.run(0, 5);
        x.decide(0, 'h', 5);
        Due.is("its number", x.copy(0), 1);
        Due.is("without its verdict", x.verdict(1), '?');
        Due.is("the verdict of the other one", x.verdict(0), 'H');
        Due.is("the same orders", x.order(1, 1, 1, 0, 'l', 0), 4);
        Due.is("the other one's orders are its own", x.ways(0, 0), 1);
        Due.is("the other one's verdict stays", x.verdict(0), 'H');
        Due.is("a copy of a copy", x.copy(1), 2);
        Due.is("the same orders", x.ways(2, 0), 0);
        for (int i = 3; i < 16; i++) {
            Due.is("copies to the last one", x.copy(i - 1), i);
        }
        Due.is("the last one", x.ways(15, 0), 0);
        Due.full("no more", () -> x.copy(15));
    }

    private static void run() {
        Document.says(6, "Runs a machine anew.");
        Document.says(6, "steps: how many steps at most, 0 to 5000");
        Document.says(6, "Returns how many steps it did.");
        Beaverhall x = new Beaverhall();
        Told.swing(x, 'b');
        Due.is("the least", x.run(0, 0), 0);
        Due.is("one", x.run(0, 1), 1);
        Due.is("the greatest", x.run(0, 5000), 5000);
        Due.is("the cell of it", x.ran(0, 'c'), 0);
        Due.is("anew", x.run(0, 3), 3);
        Due.is("the cell of it", x.ran(0, 'c'), 1);
        Due.bad("one more than the greatest", () -> x.run(0, 5001));
        Due.bad("one less than the least", () -> x.run(0, -1));
        Due.is("the run stays", x.ran(0, 'c'), 1);
        x.machine('o', 6, 4);
        Due.is("no orders", x.run(1, 5000), 0);
    }

    private static void hasHalted() {
        Document.says(7, "Returns whether the last run of a machine halted.");
        Document.says(7, "Returns true if so, false at its bound.");
        Beaverhall x = new Beaverhall();
        Told.beaver2(x);
        Told.walkRight(x, 'b');
        x.run(0, 5);
        Due.is("halted", x.hasHalted(0), true);
        x.run(0, 4);
        Due.is("the last run: at its bound of steps", x.hasHalted(0), false);
        x.run(1, 5000);
        Due.is("at its bound of cells", x.hasHalted(1), false);
        Due.is("each machine has its own run", x.hasHalted(0), false);
    }

    private static void ran() {
        Document.says(8, "Returns something of the last run of a machine.");
        Document.says(8, "what: s the state, c the cell, m the marks, p the span, l the leftmost cell visited, "
                + "r the rightmost one");
        Document.says(8, "Returns the number.");
        Beaverhall x = new Beaverhall();
        // 3 to the left, 1 at 0 and at -1 and -2, then back to the right as far as the first 0.
        Told.add(x, 'b', 5, 2, 101, -1, 102, -1, 103, -1, 14, -1, -1, 114);
        int[][] due = {{0, 0, 0, 1, 0, 0}, {1, -1, 1, 2, -1, 0}, {2, -2, 2, 3, -2, 0}, {3, -3, 3, 4, -3, 0},
            {4, -2, 3, 4, -3, 0}, {4, -1, 3, 4, -3, 0}, {4, 0, 3, 4, -3, 0}, {4, 1, 3, 5, -3, 1}};
        for (int steps = 0; steps < 8; steps++) {
            Due.is("steps", x.run(0, steps), steps);
            String whats = "scmplr";
            for (int i = 0; i < 6; i++) {
                Due.is("ran " + whats.charAt(i) + " of " + steps, x.ran(0, whats.charAt(i)), due[steps][i]);
            }
            Due.is("halted", x.hasHalted(0), steps == 7);
        }
        Told.walkLeft(x, 'b');
        x.run(1, 5000);
        Due.is("the greatest span to a side", x.ran(1, 'p'), 501);
        Due.is("the leftmost cell of all", x.ran(1, 'l'), -500);
        Due.is("the rightmost one", x.ran(1, 'r'), 0);
    }

    private static void signAt() {
        Document.says(9, "Returns a sign of the tape behind the last run of a machine.");
        Document.says(9, "Returns the sign, 0 where it never was.");
        Beaverhall x = new Beaverhall();
        Told.add(x, 'b', 1, 4, 310, 310, 310, 310);
        Told.add(x, 'b', 1, 4, 300, 300, 300, 300);
        for (int machine = 0; machine < 2; machine++) {
            int side = machine == 0 ? 1 : -1;
            x.run(machine, 5000);
            Due.is("the first cell", x.signAt(machine, 0), 3);
            Due.is("the last one but one", x.signAt(machine, 499 * side), 3);
            Due.is("the last one", x.signAt(machine, 500 * side), 0);
            for (int cell : new int[] {-side, -500 * side, 501 * side, -501 * side, 1000000, -1000000,
                Integer.MAX_VALUE, Integer.MIN_VALUE}) {
                Due.is("where it never was", x.signAt(machine, cell), 0);
            }
            x.run(machine, 1);
            Due.is("where it was in a run before", x.signAt(machine, side), 0);
        }
        Told.walkRight(x, 'o');
        x.run(2, 3);
        Due.is("beyond the end", x.signAt(2, -1), 0);
    }

    private static void print() {
        Document.says(10, "Returns the print of the last run of a machine.");
        Document.says(10, "Returns the print.");
        Beaverhall x = new Beaverhall();
        Told.walkLeft(x, 'b');
        x.run(0, 0);
        Due.is("no step", x.print(0), 7L * 31 * 31 * 31);
        x.run(0, 1);
        Due.is("a step to the left", x.print(0), ((7L * 31 * 31 - 1) * 31) * 31 + 1);
        x.run(0, 2);
        Due.is("the last run", x.print(0), (((7L * 31 * 31 - 2) * 31) * 31 + 1) * 31 + 1);
        Due.is("again", x.print(0), (((7L * 31 * 31 - 2) * 31) * 31 + 1) * 31 + 1);
    }

    private static void printByRuns() {
        Document.says(11, "Returns the print of a run of a machine by runs of like signs; its last run stays.");
        Document.says(11, "steps: how many steps at most, 0 to 5000");
        Document.says(11, "Returns the print.");
        Beaverhall x = new Beaverhall();
        Told.walkLeft(x, 'b');
        Due.is("the least", x.printByRuns(0, 0), 7L * 31 * 31 * 31);
        Due.missing("it is no run", () -> x.print(0));
        Due.is("one", x.printByRuns(0, 1), ((7L * 31 * 31 - 1) * 31) * 31 + 1);
        x.run(0, 1);
        long far = x.printByRuns(0, 5000);
        Due.is("the last run stays", x.ran(0, 'c'), -1);
        Due.is("the last run stays", x.print(0), ((7L * 31 * 31 - 1) * 31) * 31 + 1);
        x.run(0, 5000);
        Due.is("the greatest", far, x.print(0));
        Due.is("500 steps are all that it does", x.printByRuns(0, 500), far);
        Due.is("499 are not", x.printByRuns(0, 499) == far, false);
    }

    private static void runsOf() {
        Document.says(12, "Returns how many rows of like signs the tape has from the leftmost visited cell to the "
                + "rightmost one, behind the last run.");
        Document.says(12, "Returns how many.");
        Beaverhall x = new Beaverhall();
        Told.walkRight(x, 'b');
        int[][] due = {{0, 1}, {1, 2}, {2, 2}, {499, 2}, {500, 2}, {5000, 2}};
        for (int[] each : due) {
            x.run(0, each[0]);
            Due.is("ones, and the 0 ahead", x.runsOf(0), each[1]);
        }
        // 1 and 0 in turns: each cell is a row, but for the last two, which are both 0, at each other step.
        Told.add(x, 'b', 2, 2, 111, -1, 10, -1);
        for (int steps : new int[] {0, 1, 2, 3, 4, 499, 500, 5000}) {
            x.run(1, steps);
            Due.is("rows of " + steps, x.runsOf(1), steps % 2 == 1 ? steps + 1 : Math.max(1, Math.min(steps, 500)));
        }
        // Unlike signs that are both marks.
        Told.add(x, 'b', 4, 4, 111, -1, -1, -1, 212, -1, -1, -1, 313, -1, -1, -1, 310);
        x.run(2, 3);
        Due.is("1, 2, 3 and 0", x.runsOf(2), 4);
        x.run(2, 4);
        Due.is("1, 2, 3, 3 and 0", x.runsOf(2), 4);
    }

    private static void decide() {
        Document.says(13, "Lets a decider look at a machine; a verdict that it finds takes the place of one before.");
        Document.says(13, "Returns true if it found one.");
        Beaverhall x = new Beaverhall();
        Told.swing(x, 'b');
        char[] letters = {'c', 'n', 'b', 'c', 'b', 'n', 'c'};
        int[] bounds = {500, 3, 8, 2, 2, 1, 3};
        for (int i = 0; i < letters.length; i++) {
            Due.is("found", x.decide(0, letters[i], bounds[i]), true);
            Due.is("in place of one before", x.certificate(0, 'd'), letters[i]);
        }
        char[] nothing = {'h', 't', 'b', 'c'};
        int[] small = {5000, 500, 1, 1};
        for (int i = 0; i < nothing.length; i++) {
            Due.is("not found", x.decide(0, nothing[i], small[i]), false);
            Due.is("the one before stays", x.certificate(0, 'd'), 'c');
            Due.is("the one before stays", x.certificate(0, 'b'), 2);
        }
        x.forge(0, 'b', 77);
        Due.is("found anew", x.decide(0, 'c', 500), true);
        Due.is("in place of a forged one", x.certificate(0, 'b'), 2);
        // The least and the greatest bound of each letter are taken.
        char[] all = {'h', 'c', 't', 'b', 'n'};
        int[] most = {5000, 500, 500, 8, 3};
        Told.beaver5(x);
        for (int i = 0; i < all.length; i++) {
            Due.is("the least of " + all[i], x.decide(1, all[i], 1), false);
            Due.is("the greatest of " + all[i], x.decide(1, all[i], most[i]), false);
        }
    }

    private static void verdict() {
        Document.says(14, "Returns the verdict on a machine.");
        Document.says(14, "Returns H, N, or ? without one.");
        Beaverhall x = new Beaverhall();
        Told.beaver2(x);
        Told.swing(x, 'o');
        Due.is("without one", x.verdict(0), '?');
        x.decide(0, 'h', 4);
        Due.is("nothing found", x.verdict(0), '?');
        x.decide(0, 'h', 5);
        x.decide(1, 'c', 2);
        Due.is("H", x.verdict(0), 'H');
        Due.is("N", x.verdict(1), 'N');
        x.forge(0, 'a', -5000);
        x.forge(1, 'b', -5000);
        Due.is("forged ones stand", x.verdict(0), 'H');
        Due.is("forged ones stand", x.verdict(1), 'N');
        x.tell(0, 0, 'N');
        Due.is("workers do not change it", x.verdict(0), 'H');
    }

    private static void certificate() {
        Document.says(15, "Returns something of the certificate of a machine.");
        Document.says(15, "what: d the decider, a its first number, b its second one");
        Document.says(15, "Returns the number, of the decider that of its letter as a char.");
        Beaverhall x = new Beaverhall();
        Told.beaver2(x);
        Told.swing(x, 'b');
        Told.walkLeft(x, 'b');
        int[] machines = {0, 1, 2, 1, 1};
        char[] letters = {'h', 'c', 't', 'b', 'n'};
        int[][] due = {{104, 5, 4}, {99, 0, 2}, {116, 0, -1}, {98, 2, 1}, {110, 2, 2}};
        for (int i = 0; i < letters.length; i++) {
            Due.is("found", x.decide(machines[i], letters[i], letters[i] == 'n' ? 3 : 8), true);
            Due.is("d of " + letters[i], x.certificate(machines[i], 'd'), due[i][0]);
            Due.is("a of " + letters[i], x.certificate(machines[i], 'a'), due[i][1]);
            Due.is("b of " + letters[i], x.certificate(machines[i], 'b'), due[i][2]);
        }
    }

    private static void forge() {
        Document.says(16, "Changes a number of a certificate.");
        Document.says(16, "what: a or b");
        Document.says(16, "number: the number, -5000 to 5000");
        Document.says(16, "Returns the number before.");
        Beaverhall x = new Beaverhall();
        Told.beaver2(x);
        x.decide(0, 'h', 5);
        int a = 5;
        int b = 4;
        for (int number : new int[] {-5000, 5000, 0, -4999, 4999, -1, 1}) {
            Due.is("a before", x.forge(0, 'a', number), a);
            Due.is("b stays", x.certificate(0, 'b'), b);
            Due.is("b before", x.forge(0, 'b', -number), b);
            Due.is("a stays", x.certificate(0, 'a'), number);
            a = number;
            b = -number;
        }
        Due.is("the decider stays", x.certificate(0, 'd'), 'h');
        Due.is("the verdict stays", x.verdict(0), 'H');
        Due.bad("beyond the least", () -> x.forge(0, 'a', -5001));
        Due.bad("beyond the greatest", () -> x.forge(0, 'a', 5001));
        Due.is("what is refused changes nothing", x.certificate(0, 'a'), 1);
        x.forge(0, 'a', 5);
        x.forge(0, 'b', 4);
        Due.is("it passes again", x.passes(0), true);
    }

    private static void passes() {
        Document.says(17, "Returns whether the verdict on a machine passes the checker.");
        Document.says(17, "Returns true if so, false without one.");
        Beaverhall x = new Beaverhall();
        Told.beaver2(x);
        Due.is("without one", x.passes(0), false);
        x.decide(0, 'h', 4);
        Due.is("without one still", x.passes(0), false);
        x.decide(0, 'h', 5);
        Due.is("with one", x.passes(0), true);
        x.forge(0, 'b', 5);
        Due.is("with a forged one", x.passes(0), false);
        x.untell(0, 0, 0);
        Due.is("without one again", x.passes(0), false);
        // No verdict, but the numbers of one that would pass.
        x.machine('b', 1, 2);
        Due.is("without one", x.passes(1), false);
    }

    private static void ways() {
        Document.says(18, "Returns how many ways back of just so many steps there are from all orders that are not told, "
                + "as b follows them, whether they could be the beginning or not.");
        Document.says(18, "steps: the steps, 0 to 4");
        Document.says(18, "Returns how many; of 0 steps how many orders are not told.");
        Beaverhall x = new Beaverhall();
        x.machine('b', 6, 4);
        Due.is("all are not told", x.ways(0, 0), 24);
        Due.is("nothing comes to them", x.ways(0, 1), 0);
        Due.is("nothing comes to them", x.ways(0, 4), 0);
        for (int i = 0; i < 24; i++) {
            x.order(0, i / 4, i % 4, 3, 'r', 5);
        }
        Due.is("all are told", x.ways(0, 0), 0);
        Due.is("all are told", x.ways(0, 1), 0);
        Due.is("all are told", x.ways(0, 4), 0);
        x.untell(0, 5, 0);
        // To the state 5 each order leads, from one cell more to the left each time; each cell can have had any sign.
        // The state 5 itself has 3 orders, the others 20, to which no order leads.
        Due.is("one is not told", x.ways(0, 0), 1);
        Due.is("one step", x.ways(0, 1), 23);
        Due.is("two steps, of which the first one back was in the state 5", x.ways(0, 2), 3 * 23);
        Due.is("three steps", x.ways(0, 3), 3 * 3 * 23);
        Due.is("four steps", x.ways(0, 4), 3 * 3 * 3 * 23);
        // One that could be the beginning is followed too.
        Told.add(x, 'b', 1, 2, 10, -1);
        x.untell(1, 0, 0);
        Due.is("the beginning itself", x.ways(1, 0), 2);
        // Of two ways of one step back, one could be the beginning: the state 0 on a 0 with a 0 on its right.
        Told.add(x, 'b', 2, 2, 11, 11, -1, 10);
        int[] due = {1, 2, 2, 4, 4};
        for (int steps = 0; steps <= 4; steps++) {
            Due.is("on from what could be the beginning", x.ways(2, steps), due[steps]);
        }
        // An end of the tape means nothing to it.
        Told.add(x, 'o', 1, 2, 0, -1);
        for (int steps = 0; steps <= 4; steps++) {
            Due.is("with an end", x.ways(3, steps), 1);
        }
    }

    private static void listed() {
        Document.says(19, "Lists all machines.");
        Document.says(19, "states: the states, 1 or 2");
        Document.says(19, "steps: the steps, 1 to 100");
        Document.says(19, "what: h how many halt, n never halt, o are left open, s the most steps of one that halts, "
                + "m the most marks");
        Document.says(19, "Returns the number.");
        Beaverhall x = new Beaverhall();
        String whats = "hnosm";
        int[][] due = {{1, 1, 1, 2, 0, 0, 0}, {1, 100, 1, 2, 0, 0, 0}, {2, 1, 3, 2, 16, 1, 1}, {2, 100, 19, 42, 0, 5, 4}};
        for (int[] each : due) {
            for (int i = 0; i < 5; i++) {
                Due.is("listed " + each[0] + " " + each[1] + " " + whats.charAt(i),
                        x.listed(each[0], each[1], whats.charAt(i)), each[2 + i]);
            }
        }
        Due.bad("0 steps", () -> x.listed(2, 0, 'h'));
        Due.bad("101 steps", () -> x.listed(2, 101, 'h'));
        Due.is("as before", x.listed(2, 100, 'h'), 19);
        Due.is("it adds no machine", x.holdouts(), 0);
    }

    private static void champion() {
        Document.says(20, "Adds the listed machine that halts with the most steps, of several the first one.");
        Document.says(20, "states: the states, 1 or 2");
        Document.says(20, "steps: the steps, 1 to 100");
        Document.says(20, "Returns its number.");
        Beaverhall x = new Beaverhall();
        Due.is("of one state", x.champion(1, 1), 0);
        Due.is("of one state", x.champion(1, 100), 1);
        Due.is("it has one state, and no orders", x.ways(1, 0), 2);
        int[] most = {1, 2, 3, 4, 5, 5, 5};
        for (int i = 0; i < most.length; i++) {
            int steps = i == 6 ? 100 : i + 1;
            Due.is("of two states", x.champion(2, steps), 2 + i);
            Due.is("most steps of " + steps, x.run(2 + i, 5000), x.listed(2, steps, 's'));
            Due.is("it halts", x.hasHalted(2 + i), true);
        }
        Due.is("most steps of 100", x.run(8, 5000), 5);
        for (int i = 9; i < 16; i++) {
            Due.is("to the last one", x.champion(2, 100), i);
        }
        Due.full("no more", () -> x.champion(2, 100));
        Due.bad("no such steps", () -> x.champion(2, 101));
    }

    private static void haltingShare() {
        Document.says(21, "Returns the share of the listed machines that halt.");
        Document.says(21, "states: the states, 1 or 2");
        Document.says(21, "steps: the steps, 1 to 100");
        Document.says(21, "Returns their number divided by that of all counted, both converted to float.");
        Beaverhall x = new Beaverhall();
        Due.is("1 of 3", (double) x.haltingShare(1, 1), (double) (1f / 3f));
        Due.is("1 of 3", (double) x.haltingShare(1, 100), (double) (1f / 3f));
        Due.is("3 of 21", (double) x.haltingShare(2, 1), (double) (3f / 21f));
        Due.is("19 of 61", (double) x.haltingShare(2, 100), (double) (19f / 61f));
    }

    private static void record() {
        Document.says(22, "Returns the machine with the most of something among those with the verdict H that passes, "
                + "of several the lowest one.");
        Document.says(22, "what: s steps, m marks");
        Document.says(22, "Returns its number.");
        Beaverhall x = new Beaverhall();
        x.machine('b', 1, 2);
        x.decide(0, 'h', 1);
        Due.is("no steps, but the only one", x.record('s'), 0);
        Due.is("no marks, but the only one", x.record('m'), 0);
        x.machine('b', 1, 2);
        x.decide(1, 'h', 1);
        Due.is("of several the lowest one", x.record('s'), 0);
        Due.is("of several the lowest one", x.record('m'), 0);
        for (int i = 2; i < 16; i++) {
            Told.beaver2(x);
        }
        Due.is("one without a verdict", x.record('s'), 0);
        x.decide(15, 'h', 5);
        Due.is("the last machine", x.record('s'), 15);
        Due.is("the last machine", x.record('m'), 15);
        x.decide(14, 'h', 5000);
        Due.is("of several the lowest one", x.record('s'), 14);
        x.forge(14, 'a', 5000);
        Due.is("one that does not pass has no record", x.record('s'), 15);
        Due.is("one that does not pass has no record", x.record('m'), 15);
        x.forge(15, 'b', 5000);
        Due.is("none of the two", x.record('m'), 0);
        x.forge(0, 'a', 1);
        x.forge(1, 'a', 1);
        Due.missing("none at all", () -> x.record('s'));
        Beaverhall y = new Beaverhall();
        // 2 steps and no mark, 1 step and a mark, and then none of either.
        Told.add(y, 'b', 3, 2, 11, -1, 12, -1, -1, -1);
        Told.add(y, 'b', 2, 2, 111, -1, -1, -1);
        y.machine('b', 1, 2);
        for (int i = 0; i < 3; i++) {
            y.decide(i, 'h', 5);
        }
        Due.is("the most steps", y.record('s'), 0);
        Due.is("the most marks", y.record('m'), 1);
    }

    private static void tell() {
        Document.says(23, "Lets a worker tell a verdict.");
        Document.says(23, "worker: the worker, 0 to 3");
        Document.says(23, "verdict: H or N");
        Document.says(23, "Returns how many workers told one on this machine.");
        Beaverhall x = new Beaverhall();
        x.machine('b', 1, 2);
        x.machine('b', 1, 2);
        Due.is("the last worker", x.tell(3, 0, 'N'), 1);
        Due.is("the first worker", x.tell(0, 0, 'H'), 2);
        Due.is("the first worker again", x.tell(0, 0, 'H'), 2);
        Due.is("another machine", x.tell(0, 1, 'N'), 1);
        Due.is("the other two", x.tell(1, 0, 'N'), 3);
        Due.is("the other two", x.tell(2, 0, 'H'), 4);
        Due.is("no more than four", x.tell(3, 0, 'H'), 4);
        Due.is("another machine", x.tell(3, 1, 'N'), 2);
    }

    private static void isDisputed() {
        Document.says(24, "Returns whether a machine is disputed.");
        Document.says(24, "Returns true if so.");
        Beaverhall x = new Beaverhall();
        Told.beaver2(x);
        Due.is("nobody told", x.isDisputed(0), false);
        for (int worker = 0; worker < 4; worker++) {
            x.tell(worker, 0, 'N');
            Due.is("all told alike", x.isDisputed(0), false);
        }
        for (int worker = 0; worker < 4; worker++) {
            x.tell(worker, 0, 'H');
            Due.is("some told unlike", x.isDisputed(0), worker < 3);
        }
        x.decide(0, 'h', 5);
        Due.is("as the verdict", x.isDisputed(0), false);
        x.tell(3, 0, 'N');
        Due.is("the last one unlike", x.isDisputed(0), true);
        x.copy(0);
        Due.is("a copy is not", x.isDisputed(1), false);
    }

    private static void holdouts() {
        Document.says(25, "Returns how many holdouts there are.");
        Document.says(25, "Returns how many.");
        Document.says(26, "Returns a holdout.");
        Document.says(26, "index: the index, from 0, by rising numbers");
        Document.says(26, "Returns the machine.");
        Beaverhall x = new Beaverhall();
        Due.is("without machines", x.holdouts(), 0);
        Due.missing("without machines", () -> x.holdoutAt(0));
        for (int i = 0; i < 16; i++) {
            Told.beaver2(x);
        }
        Due.is("all 16", x.holdouts(), 16);
        for (int i = 0; i < 16; i++) {
            Due.is("by rising numbers", x.holdoutAt(i), i);
        }
        Due.missing("no 17th", () -> x.holdoutAt(16));
        for (int i = 1; i < 16; i += 2) {
            x.decide(i, 'h', 5);
        }
        Due.is("eight", x.holdouts(), 8);
        for (int i = 0; i < 8; i++) {
            Due.is("by rising numbers", x.holdoutAt(i), 2 * i);
        }
        Due.missing("no 9th", () -> x.holdoutAt(8));
        Due.missing("none ahead of the first", () -> x.holdoutAt(-1));
        for (int i = 0; i < 16; i += 2) {
            x.decide(i, 'h', 5);
        }
        Due.is("none", x.holdouts(), 0);
        Due.missing("none", () -> x.holdoutAt(0));
    }

    private static void count() {
        Document.says(27, "Adds an order to the counter machine.");
        Document.says(27, "kind: + or -");
        Document.says(27, "place: the place, 0 to 12");
        Document.says(27, "other: the other place, 0 to 12, of no meaning for +");
        Document.says(27, "Returns how many it has.");
        Document.says(28, "Takes all orders of the counter machine away.");
        Document.says(28, "Returns how many it had.");
        Beaverhall x = new Beaverhall();
        Due.is("none to take away", x.uncount(), 0);
        Due.is("least", x.count('-', 0, 0, 0), 1);
        Due.is("greatest", x.count('-', 3, 12, 12), 2);
        Due.is("of no meaning", x.count('+', 3, 12, -1), 3);
        Due.is("of no meaning", x.count('+', 3, 12, 13), 4);
        for (int i = 5; i <= 12; i++) {
            Due.is("one more", x.count('+', 0, 0, 0), i);
        }
        Due.full("no more", () -> x.count('+', 0, 0, 0));
        Due.is("12 to take away", x.uncount(), 12);
        Due.is("none is left", x.runCounters(0, 0, 5000), 0);
        Due.is("none to take away", x.uncount(), 0);
        Due.is("anew", x.count('+', 2, 0, 0), 1);
        Due.is("anew", x.runCounters(0, 0, 4), 4);
        Due.is("anew", x.register(2), 4);
        Due.is("one to take away", x.uncount(), 1);
    }

    private static void runCounters() {
        Document.says(29, "Runs the counter machine with two registers told, others being 0.");
        Document.says(29, "first: the register 0, 0 to 1000");
        Document.says(29, "second: the register 1, 0 to 1000");
        Document.says(29, "steps: how many steps at most, 0 to 5000");
        Document.says(29, "Returns how many steps it did.");
        Beaverhall x = new Beaverhall();
        x.count('-', 0, 0, 1);
        x.count('-', 1, 1, 2);
        x.count('+', 3, 2, 0);
        Due.is("the least", x.runCounters(0, 0, 0), 0);
        Due.is("the greatest", x.runCounters(1000, 1000, 5000), 5000);
        Due.is("behind 1001 and 1001 steps", x.register(3), 2998);
        Due.is("the greatest, no step", x.runCounters(1000, 1000, 0), 0);
        Due.is("told", x.register(0), 1000);
        Due.is("told", x.register(1), 1000);
        Due.is("others being 0", x.register(2), 0);
        Due.is("others being 0", x.register(3), 0);
        Due.bad("one more", () -> x.runCounters(1001, 1000, 1));
        Due.bad("one more", () -> x.runCounters(1000, 1001, 1));
        Due.bad("one more", () -> x.runCounters(1000, 1000, 5001));
        Due.is("what is refused changes nothing", x.register(0), 1000);
    }

    private static void register() {
        Document.says(30, "Returns a register behind the last run.");
        Document.says(30, "Returns its number, 0 at first.");
        Beaverhall x = new Beaverhall();
        for (int i = 0; i < 4; i++) {
            Due.is("0 at first", x.register(i), 0);
        }
        x.count('+', 3, 0, 0);
        for (int i = 0; i < 4; i++) {
            Due.is("0 ahead of a run", x.register(i), 0);
        }
        x.runCounters(2, 1000, 5000);
        int[] due = {2, 1000, 0, 5000};
        for (int i = 0; i < 4; i++) {
            Due.is("behind the last run", x.register(i), due[i]);
        }
        x.uncount();
        Due.is("behind the last run still", x.register(3), 5000);
        x.runCounters(0, 0, 0);
        Due.is("behind a run of no step", x.register(3), 0);
    }

    private static void tagRow() {
        Document.says(31, "Puts a letter behind the row of a letter.");
        Document.says(31, "letter: the letter whose row it is");
        Document.says(31, "sign: the letter put there");
        Document.says(31, "Returns how long its row is.");
        Beaverhall x = new Beaverhall();
        String rows = "dcbadc";
        for (int i = 0; i < 6; i++) {
            Due.is("row of a", x.tagRow('a', rows.charAt(i)), i + 1);
            Due.is("row of d", x.tagRow('d', rows.charAt(5 - i)), i + 1);
        }
        Due.full("a 7th of a", () -> x.tagRow('a', 'a'));
        Due.full("a 7th of d", () -> x.tagRow('d', 'd'));
        Due.is("b is another row", x.tagRow('b', 'a'), 1);
        Due.is("c is another row", x.tagRow('c', 'd'), 1);
        x.tagStart('a');
        x.tagStart('a');
        x.tag(2, 1);
        for (int i = 0; i < 6; i++) {
            Due.is("behind each other", x.tagLetter(i), rows.charAt(i));
        }
    }

    private static void tagStart() {
        Document.says(32, "Puts a letter behind the beginning.");
        Document.says(32, "Returns how long it is.");
        Beaverhall x = new Beaverhall();
        for (int i = 0; i < 40; i++) {
            Due.is("one more", x.tagStart((char) ('a' + i % 4)), i + 1);
        }
        Due.full("a 41st", () -> x.tagStart('a'));
        x.tag(2, 0);
        Due.is("40", x.tagLength(), 40);
        for (int i = 0; i < 40; i++) {
            Due.is("behind each other", x.tagLetter(i), (char) ('a' + i % 4));
        }
    }

    private static void untag() {
        Document.says(33, "Takes all rows and the beginning away.");
        Document.says(33, "Returns how long all were together.");
        Beaverhall x = new Beaverhall();
        Due.is("none", x.untag(), 0);
        x.tagStart('d');
        Due.is("a beginning alone", x.untag(), 1);
        x.tagRow('d', 'a');
        Due.is("a row alone", x.untag(), 1);
        for (int i = 0; i < 40; i++) {
            x.tagStart('a');
        }
        for (int i = 0; i < 24; i++) {
            x.tagRow((char) ('a' + i % 4), 'b');
        }
        Due.is("all that there can be", x.untag(), 64);
        Due.is("none is left", x.untag(), 0);
        Due.is("the beginning is empty", x.tag(2, 2000), 0);
        Due.is("the beginning is empty", x.tagLength(), 0);
        x.tagStart('a');
        x.tagStart('b');
        x.tagStart('c');
        Due.is("the rows are empty", x.tag(2, 1), 1);
        Due.is("the rows are empty", x.tagLength(), 1);
        Due.is("the rows are empty", x.tagLetter(0), 'c');
    }

    private static void tag() {
        Document.says(34, "Runs the tag row from its beginning.");
        Document.says(34, "number: the number, 2 or 3");
        Document.says(34, "steps: how many steps at most, 0 to 2000");
        Document.says(34, "Returns how many steps it did; it is at its bound, too, ahead of a step that would make it "
                + "longer than 400.");
        Beaverhall x = new Beaverhall();
        x.tagRow('a', 'a');
        x.tagRow('a', 'b');
        x.tagRow('a', 'a');
        for (int i = 0; i < 3; i++) {
            x.tagStart('a');
        }
        Due.is("the least", x.tag(3, 0), 0);
        Due.is("the greatest", x.tag(3, 2000), 2000);
        Due.is("as long as ever", x.tagLength(), 3);
        x.untag();
        // 4 letters more each step, to 400 with a c in front, which has no row: that step is done, the next one is not.
        String[] rows = {"aaaaaa", "aacaaa", "", "baaaaa"};
        for (int i = 0; i < 4; i++) {
            for (int k = 0; k < rows[i].length(); k++) {
                x.tagRow((char) ('a' + i), rows[i].charAt(k));
            }
        }
        for (int i = 0; i < 40; i++) {
            x.tagStart(i == 2 ? 'd' : 'a');
        }
        Due.is("to 400 just", x.tag(2, 90), 90);
        Due.is("to 400 just", x.tagLength(), 400);
        Due.is("a c in front", x.tagLetter(0), 'c');
        Due.is("ahead of a step that would make it longer", x.tag(2, 2000), 91);
        Due.is("ahead of a step that would make it longer", x.tagLength(), 398);
        Due.is("an a in front", x.tagLetter(0), 'a');
    }

    private static void tagLetters() {
        Document.says(35, "Returns how long the tag row is behind the last run.");
        Document.says(35, "Returns how long, 0 at first.");
        Document.says(36, "Returns a letter of the tag row behind the last run.");
        Document.says(36, "index: the index, from 0");
        Document.says(36, "Returns the letter.");
        Beaverhall x = new Beaverhall();
        Due.is("0 at first", x.tagLength(), 0);
        Due.missing("none at first", () -> x.tagLetter(0));
        x.tagStart('c');
        x.tagStart('d');
        Due.is("0 ahead of a run", x.tagLength(), 0);
        Due.missing("none ahead of a run", () -> x.tagLetter(0));
        x.tag(3, 0);
        Due.is("behind the run", x.tagLength(), 2);
        Due.is("the first", x.tagLetter(0), 'c');
        Due.is("the last", x.tagLetter(1), 'd');
        Due.missing("behind the last", () -> x.tagLetter(2));
        Due.missing("ahead of the first", () -> x.tagLetter(-1));
        x.tagStart('a');
        x.untag();
        Due.is("behind the run still", x.tagLength(), 2);
        Due.is("behind the run still", x.tagLetter(1), 'd');
        x.tag(2, 0);
        Due.is("behind an empty run", x.tagLength(), 0);
        Due.missing("behind an empty run", () -> x.tagLetter(0));
    }

    private static void fraction() {
        Document.says(37, "Adds a fraction to the walk.");
        Document.says(37, "over: what stands above, 1 to 10000");
        Document.says(37, "under: what stands below, 1 to 10000");
        Document.says(37, "Returns how many there are.");
        Document.says(38, "Takes all fractions away.");
        Document.says(38, "Returns how many there were.");
        Beaverhall x = new Beaverhall();
        Due.is("none to take away", x.unwalk(), 0);
        int[][] parts = {{10000, 9999}, {9999, 10000}, {1, 10000}, {10000, 10000}, {1, 1}};
        for (int i = 0; i < 10; i++) {
            Due.is("one more", x.fraction(parts[i % 5][0], parts[i % 5][1]), i + 1);
        }
        Due.full("an 11th", () -> x.fraction(1, 1));
        Due.is("the first one", x.walk(9999, 1), 10000);
        Due.is("the second one", x.walk(10000, 1), 9999);
        Due.is("the third one comes behind them", x.walk(10000, 2), 10000);
        Due.is("the fourth one", x.walk(7, 5000), 7);
        Due.is("10 to take away", x.unwalk(), 10);
        Due.is("none to take away", x.unwalk(), 0);
        Due.is("none is left", x.walk(10000, 1), 10000);
        Due.is("none is left", x.hasWalked(), true);
        Due.is("anew", x.fraction(10000, 1), 1);
    }

    private static void walk() {
        Document.says(39, "Walks.");
        Document.says(39, "number: the number, 1 to 1000000000");
        Document.says(39, "steps: how many steps at most, 0 to 5000");
        Document.says(39, "Returns the number come to.");
        Document.says(40, "Returns how many steps the last walk did.");
        Document.says(40, "Returns how many, 0 at first.");
        Document.says(41, "Returns whether the last walk halted.");
        Document.says(41, "Returns true if so, false at its bound, and at first.");
        Beaverhall x = new Beaverhall();
        Due.is("0 at first", x.walked(), 0);
        Due.is("false at first", x.hasWalked(), false);
        x.fraction(1, 1);
        Due.is("false ahead of a walk", x.hasWalked(), false);
        Due.is("the least", x.walk(1, 0), 1);
        Due.is("the least", x.walked(), 0);
        Due.is("at its bound", x.hasWalked(), false);
        Due.is("the greatest", x.walk(1000000000L, 5000), 1000000000L);
        Due.is("the greatest", x.walked(), 5000);
        Due.is("at its bound", x.hasWalked(), false);
        Due.bad("one more", () -> x.walk(1000000001L, 1));
        Due.bad("one less", () -> x.walk(0, 1));
        Due.bad("a step more", () -> x.walk(1, 5001));
        Due.is("what is refused changes nothing", x.walked(), 5000);
        x.unwalk();
        Due.is("the last walk stays", x.walked(), 5000);
        Due.is("halted at once", x.walk(1000000000L, 5000), 1000000000L);
        Due.is("halted at once", x.walked(), 0);
        Due.is("halted at once", x.hasWalked(), true);
        x.fraction(2, 1);
        Due.is("the last walk stays", x.hasWalked(), true);
        Due.is("at its bound of numbers", x.walk(1, 5000), 1L << 49);
        Due.is("at its bound of numbers", x.walked(), 49);
        Due.is("at its bound of numbers", x.hasWalked(), false);
    }

    private static void meanMarks() {
        Document.says(42, "Returns the mean marks of the machines with the verdict H that passes.");
        Document.says(42, "Returns the sum of the marks of their certificates divided by their number, both converted to "
                + "double.");
        Beaverhall x = new Beaverhall();
        x.machine('b', 1, 2);
        x.decide(0, 'h', 1);
        Due.is("one of no marks", x.meanMarks(), 0.0);
        Told.beaver2(x);
        Due.is("one without a verdict", x.meanMarks(), 0.0);
        x.decide(1, 'h', 5);
        Due.is("4 of 2", x.meanMarks(), 2.0);
        x.machine('b', 1, 2);
        x.decide(2, 'h', 1);
        Due.is("4 of 3", x.meanMarks(), 4.0 / 3.0);
        Told.walkRight(x, 'b');
        x.decide(3, 't', 1);
        Due.is("one with another verdict", x.meanMarks(), 4.0 / 3.0);
        x.forge(2, 'b', 1);
        Due.is("one that does not pass", x.meanMarks(), 2.0);
        for (int i = 4; i < 16; i++) {
            x.copy(1);
            x.decide(i, 'h', 5);
        }
        Due.is("52 of 14", x.meanMarks(), 52.0 / 14.0);
    }

    private static void checksum() {
        Document.says(43, "Returns a sum over all machines.");
        Document.says(43, "Returns 7 at first, then for each machine, state and sign 31 times itself, plus 0 for an order "
                + "that is not told, otherwise 1 plus the sign to write, 4 times the next state, and 40 more for the "
                + "right.");
        Beaverhall x = new Beaverhall();
        BigInteger sum = BigInteger.valueOf(7);
        Due.is("7 at first", x.checksum(), 7);
        for (int i = 0; i < 16; i++) {
            int states = 1 + i % 6;
            int signs = 2 + i % 3;
            x.machine('b', states, signs);
            for (int place = 0; place < states * signs; place++) {
                int code = 0;
                if ((place + i) % 3 > 0) {
                    int write = (place + i) % signs;
                    int next = (place + 2 * i) % states;
                    boolean right = (place + i) % 2 == 0;
                    x.order(i, place / signs, place % signs, write, right ? 'r' : 'l', next);
                    code = 1 + write + 4 * next + (right ? 40 : 0);
                }
                sum = sum.multiply(BigInteger.valueOf(31)).add(BigInteger.valueOf(code));
            }
            Due.is("with the wrap-around behind machine " + i, x.checksum(), sum.longValue());
        }
        Beaverhall y = new Beaverhall();
        y.machine('o', 6, 4);
        y.order(0, 0, 0, 0, 'l', 0);
        Due.is("an order that is 1", y.checksum(), BigInteger.valueOf(31).pow(24).multiply(BigInteger.valueOf(7))
                .add(BigInteger.valueOf(31).pow(23)).longValue());
        y.order(0, 0, 0, 3, 'r', 5);
        Due.is("an order that is 64", y.checksum(), BigInteger.valueOf(31).pow(24).multiply(BigInteger.valueOf(7))
                .add(BigInteger.valueOf(31).pow(23).multiply(BigInteger.valueOf(64))).longValue());
    }

    private static void isSound() {
        Document.says(44, "Returns whether all is sound: each verdict N whose certificate passes is of a machine that does "
                + "not halt within 5000 steps; each verdict H that passes is of one that does; runs by runs come to "
                + "what plain ones come to, within 200 steps.");
        Document.says(44, "Returns true if so.");
        Beaverhall x = new Beaverhall();
        Due.is("no machine", x.isSound(), true);
        Told.add(x, 'b', 6, 4, 304, 2, 212, -1, 202, 12, 114, 215, 213, 105, 15, 102, 302, 112, 311, 310, 301, 101, 205,
                111, 211, 301, 3, 300);
        Due.is("without a verdict", x.isSound(), true);
        x.decide(0, 'h', 5000);
        Due.is("one that halts behind just 5000 steps", x.passes(0) && x.isSound(), true);
        x.forge(0, 'a', 4999);
        Due.is("a verdict that does not pass is none", x.isSound(), true);
        for (char tape : new char[] {'b', 'o'}) {
            Told.walkRight(x, tape);
            Told.walkLeft(x, tape);
            Told.swing(x, tape);
        }
        Due.is("machines at all bounds", x.isSound(), true);
        for (int machine = 1; machine <= 6; machine++) {
            x.decide(machine, 'h', 5000);
            x.decide(machine, 'c', 500);
            if (machine <= 3) {
                x.decide(machine, 't', 500);
            }
        }
        char[] due = {'N', 'N', 'N', '?', 'H', 'N'};
        for (int machine = 1; machine <= 6; machine++) {
            Due.is("verdict", x.verdict(machine), due[machine - 1]);
        }
        Due.is("with their verdicts", x.isSound(), true);
        x.run(1, 3);
        x.isSound();
        Due.is("it leaves the last run", x.ran(1, 'c'), 3);
    }
}
