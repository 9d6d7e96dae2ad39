import java.util.NoSuchElementException;

/**
 * Each line of the document that begins with "Throws": what is thrown, at each edge of what is allowed; that of
 * several exceptions the one listed first is thrown; and that a refused call changes nothing.
 */
public final class RefusalTest {
    /** A call that is refused. */
    private interface Call {
        void make(Beaverhall x);
    }

    /** Halls in which calls are refused: a new one, one with some of all, and one in which nothing more fits. */
    private enum Kind {
        BARE(0), OPEN(3), FULL(16);

        private final int machines;

        Kind(int machines) {
            this.machines = machines;
        }
    }

    private static final Class<? extends RuntimeException> OUTSIDE = IndexOutOfBoundsException.class;
    private static final Class<? extends RuntimeException> BAD = IllegalArgumentException.class;
    private static final Class<? extends RuntimeException> STATE = IllegalStateException.class;
    private static final Class<? extends RuntimeException> MISSING = NoSuchElementException.class;
    private static final int LEAST = Integer.MIN_VALUE;
    private static final int MOST = Integer.MAX_VALUE;
    private static final char LAST = Character.MAX_VALUE;
    private static final String[] untouched = new String[Kind.values().length];

    public static void main(String[] args) {
        for (Kind kind : Kind.values()) {
            untouched[kind.ordinal()] = seen(made(kind), kind);
            Due.is("two halls made alike are alike", untouched[kind.ordinal()].equals(seen(made(kind), kind)), true);
        }
        Document.says(Document.TERMS, "A method that throws an exception changes nothing.");
        Document.says(Document.TERMS, "If several exceptions apply, the one that is listed first is thrown.");
        machine();
        order();
        untell();
        copy();
        run();
        lookedAtWithoutRun();
        ran();
        signAt();
        printByRuns();
        decide();
        verdicts();
        certificate();
        forge();
        ways();
        lists();
        champion();
        record();
        tell();
        holdoutAt();
        count();
        runCounters();
        register();
        tagRow();
        tagStart();
        tag();
        tagLetter();
        fraction();
        walk();
        meanMarks();
        Due.end();
    }

    private static Beaverhall made(Kind kind) {
        Beaverhall x = new Beaverhall();
        if (kind == Kind.BARE) {
            return x;
        }
        Told.beaver2(x);
        Told.swing(x, 'b');
        Told.add(x, 'o', 3, 3, 211, -1, -1, 102);
        x.run(0, 4);
        x.run(2, 9);
        x.decide(0, 'h', 5);
        x.tell(3, 0, 'N');
        x.tell(1, 2, 'H');
        if (kind == Kind.FULL) {
            x.forge(0, 'a', 6);
        }
        for (int i = 3; i < kind.machines; i++) {
            x.copy(i % 3);
        }
        int[] sizes = kind == Kind.FULL ? new int[] {12, 6, 40, 10} : new int[] {2, 3, 4, 2};
        for (int i = 0; i < sizes[0]; i++) {
            x.count(i % 2 == 0 ? '-' : '+', i % 2, (i + 1) % sizes[0], 12);
        }
        for (int i = 0; i < sizes[1]; i++) {
            x.tagRow('a', i % 2 == 0 ? 'a' : 'b');
        }
        for (int i = 0; i < sizes[2]; i++) {
            x.tagStart('a');
        }
        for (int i = 0; i < sizes[3]; i++) {
            x.fraction(3 + i, 2 + i);
        }
        x.runCounters(5, 7, 3);
        x.tag(3, 1);
        x.walk(8, 2);
        return x;
    }

    /** All that calls can tell of a hall; the calls that change it stand last. */
    private static String seen(Beaverhall x, Kind kind) {
        StringBuilder all = new StringBuilder();
        all.append(x.checksum()).append(' ').append(x.holdouts()).append(' ').append(x.isSound());
        for (int i = 0; i < kind.machines; i++) {
            all.append("\nmachine ").append(i).append(x.verdict(i)).append(x.passes(i)).append(x.isDisputed(i));
            if (x.verdict(i) != '?') {
                for (char what : new char[] {'d', 'a', 'b'}) {
                    all.append(' ').append(x.certificate(i, what));
                }
            }
            all.append(seenRun(x, i));
        }
        for (int i = 0; i < 4; i++) {
            all.append("\nregister ").append(x.register(i));
        }
        all.append("\ntag ").append(seenTag(x));
        all.append("\nwalk ").append(x.walked()).append(x.hasWalked());
        all.append("\nlist ").append(x.listed(2, 7, 'h')).append(' ').append(x.haltingShare(2, 6));
        for (int i = 0; i < kind.machines; i++) {
            all.append("\ntold ").append(x.tell(0, i, 'H'));
        }
        all.append("\ncounters ").append(x.runCounters(3, 2, 5)).append(' ').append(x.register(0)).append(' ')
                .append(x.register(1)).append(' ').append(x.uncount());
        all.append("\ntag ").append(x.tag(2, 2)).append(seenTag(x)).append(' ').append(x.untag());
        all.append("\nwalk ").append(x.walk(5040, 4)).append(' ').append(x.unwalk());
        try {
            all.append("\nnew ").append(x.machine('b', 1, 2));
        } catch (IllegalStateException e) {
            all.append("\nfull");
        }
        return all.toString();
    }

    private static String seenRun(Beaverhall x, int machine) {
        StringBuilder all = new StringBuilder();
        try {
            all.append(x.hasHalted(machine));
        } catch (NoSuchElementException e) {
            return " not run";
        }
        for (char what : new char[] {'s', 'c', 'm', 'p', 'l', 'r'}) {
            all.append(' ').append(x.ran(machine, what));
        }
        return all.append(' ').append(x.print(machine)).append(' ').append(x.runsOf(machine)).append(' ')
                .append(x.signAt(machine, 0)).toString();
    }

    private static String seenTag(Beaverhall x) {
        StringBuilder all = new StringBuilder().append(x.tagLength()).append(' ');
        for (int i = 0; i < Math.min(8, x.tagLength()); i++) {
            all.append(x.tagLetter(i));
        }
        return all.toString();
    }

    private static void refused(Kind kind, Class<? extends RuntimeException> want, String name, Call call) {
        Beaverhall x = made(kind);
        Due.throwing(kind + ": " + name, () -> call.make(x), want);
        String after = seen(x, kind);
        Due.is(kind + ": " + name + " changes nothing", after.equals(untouched[kind.ordinal()]), true);
    }

    private static int[] noMachines(Kind kind) {
        return new int[] {LEAST, -1, kind.machines, 17, MOST};
    }

    /** Refused for each number that is that of no machine, in each kind of hall. */
    private static void outside(String name, MachineCall call) {
        for (Kind kind : Kind.values()) {
            for (int machine : noMachines(kind)) {
                refused(kind, OUTSIDE, name + " of machine " + machine, x -> call.make(x, machine));
            }
        }
    }

    /** A call with the number of a machine. */
    private interface MachineCall {
        void make(Beaverhall x, int machine);
    }

    private static void machine() {
        Document.says(2, "Throws IllegalArgumentException if there is no such tape, or a number is out of range");
        for (Kind kind : Kind.values()) {
            for (char tape : new char[] {0, 'a', 'c', 'n', 'p', 'B', 'O', LAST}) {
                refused(kind, BAD, "machine of tape " + (int) tape, x -> x.machine(tape, 1, 2));
            }
            for (int states : new int[] {LEAST, -1, 0, 7, MOST}) {
                refused(kind, BAD, "machine of states " + states, x -> x.machine('b', states, 2));
            }
            for (int signs : new int[] {LEAST, -1, 0, 1, 5, MOST}) {
                refused(kind, BAD, "machine of signs " + signs, x -> x.machine('o', 6, signs));
            }
        }
        Document.says(2, "Throws IllegalStateException if there are 16");
        refused(Kind.FULL, STATE, "a 17th machine", x -> x.machine('b', 1, 2));
        refused(Kind.FULL, STATE, "a 17th machine", x -> x.machine('o', 6, 4));
    }

    private static void order() {
        Document.says(3, "Throws IndexOutOfBoundsException if there is no such machine");
        outside("order", (x, machine) -> x.order(machine, 0, 0, 0, 'l', 0));
        outside("order with all else wrong", (x, machine) -> x.order(machine, 9, 9, 9, 'x', 9));
        Document.says(3, "Throws IllegalArgumentException if there is no such state, sign or move");
        // Machine 0 has 2 states and 2 signs, machine 2 has 3 states and 3 signs.
        for (int machine = 0; machine < 3; machine += 2) {
            int number = machine;
            for (int wrong : new int[] {LEAST, -1, machine == 0 ? 2 : 3, 6, MOST}) {
                refused(Kind.OPEN, BAD, "order of state " + wrong, x -> x.order(number, wrong, 0, 1, 'r', 1));
                refused(Kind.OPEN, BAD, "order of sign " + wrong, x -> x.order(number, 0, wrong, 1, 'r', 1));
                refused(Kind.OPEN, BAD, "order to write " + wrong, x -> x.order(number, 0, 0, wrong, 'r', 1));
                refused(Kind.OPEN, BAD, "order to state " + wrong, x -> x.order(number, 0, 0, 1, 'r', wrong));
            }
        }
        for (char move : new char[] {0, 'k', 'm', 'q', 's', 'L', 'R', LAST}) {
            refused(Kind.OPEN, BAD, "order of move " + (int) move, x -> x.order(0, 0, 0, 1, move, 1));
        }
    }

    private static void untell() {
        Document.says(4, "Throws IndexOutOfBoundsException if there is no such machine");
        outside("untell", (x, machine) -> x.untell(machine, 0, 0));
        outside("untell with all else wrong", (x, machine) -> x.untell(machine, 9, 9));
        Document.says(4, "Throws IllegalArgumentException if there is no such state or sign");
        for (int wrong : new int[] {LEAST, -1, 2, 6, MOST}) {
            refused(Kind.OPEN, BAD, "untell of state " + wrong, x -> x.untell(0, wrong, 0));
            refused(Kind.OPEN, BAD, "untell of sign " + wrong, x -> x.untell(0, 0, wrong));
            refused(Kind.OPEN, BAD, "untell of sign " + wrong, x -> x.untell(0, 1, wrong));
        }
        Document.says(4, "Throws NoSuchElementException if it is not told");
        refused(Kind.OPEN, MISSING, "untell of what is not told", x -> x.untell(0, 1, 1));
        refused(Kind.OPEN, MISSING, "untell of what is not told", x -> x.untell(2, 2, 2));
    }

    private static void copy() {
        Document.says(5, "Throws IndexOutOfBoundsException if there is no such machine");
        outside("copy", (x, machine) -> x.copy(machine));
        Document.says(5, "Throws IllegalStateException if there are 16");
        refused(Kind.FULL, STATE, "copy of the first one", x -> x.copy(0));
        refused(Kind.FULL, STATE, "copy of the last one", x -> x.copy(15));
    }

    private static void run() {
        Document.says(6, "Throws IndexOutOfBoundsException if there is no such machine");
        outside("run", (x, machine) -> x.run(machine, 0));
        outside("run with a wrong number", (x, machine) -> x.run(machine, -1));
        Document.says(6, "Throws IllegalArgumentException if a number is out of range");
        for (int steps : new int[] {LEAST, -1, 5001, MOST}) {
            refused(Kind.OPEN, BAD, "run of steps " + steps, x -> x.run(0, steps));
            refused(Kind.OPEN, BAD, "run of steps " + steps, x -> x.run(1, steps));
        }
    }

    private static void lookedAtWithoutRun() {
        Document.says(7, "Throws IndexOutOfBoundsException if there is no such machine");
        outside("hasHalted", (x, machine) -> x.hasHalted(machine));
        Document.says(7, "Throws NoSuchElementException if it was not run");
        refused(Kind.OPEN, MISSING, "hasHalted", x -> x.hasHalted(1));
        Document.says(10, "Throws IndexOutOfBoundsException if there is no such machine");
        outside("print", (x, machine) -> x.print(machine));
        Document.says(10, "Throws NoSuchElementException if it was not run");
        refused(Kind.OPEN, MISSING, "print", x -> x.print(1));
        Document.says(12, "Throws IndexOutOfBoundsException if there is no such machine");
        outside("runsOf", (x, machine) -> x.runsOf(machine));
        Document.says(12, "Throws NoSuchElementException if it was not run");
        refused(Kind.OPEN, MISSING, "runsOf", x -> x.runsOf(1));
        refused(Kind.FULL, MISSING, "runsOf of a copy of one that was run", x -> x.runsOf(15));
    }

    private static void ran() {
        Document.says(8, "Throws IndexOutOfBoundsException if there is no such machine");
        outside("ran", (x, machine) -> x.ran(machine, 's'));
        outside("ran with a wrong what", (x, machine) -> x.ran(machine, 'x'));
        Document.says(8, "Throws IllegalArgumentException if there is no such what");
        for (char what : new char[] {0, 'S', 'a', 'b', 'd', 'k', 'n', 'q', 't', LAST}) {
            refused(Kind.OPEN, BAD, "ran " + (int) what, x -> x.ran(0, what));
            refused(Kind.OPEN, BAD, "ran " + (int) what + " of one not run", x -> x.ran(1, what));
        }
        Document.says(8, "Throws NoSuchElementException if it was not run");
        for (char what : new char[] {'s', 'c', 'm', 'p', 'l', 'r'}) {
            refused(Kind.OPEN, MISSING, "ran " + what, x -> x.ran(1, what));
        }
    }

    private static void signAt() {
        Document.says(9, "Throws IndexOutOfBoundsException if there is no such machine");
        outside("signAt", (x, machine) -> x.signAt(machine, 0));
        outside("signAt far out", (x, machine) -> x.signAt(machine, MOST));
        Document.says(9, "Throws NoSuchElementException if it was not run");
        for (int cell : new int[] {LEAST, -501, 0, 501, MOST}) {
            refused(Kind.OPEN, MISSING, "signAt " + cell, x -> x.signAt(1, cell));
        }
    }

    private static void printByRuns() {
        Document.says(11, "Throws IndexOutOfBoundsException if there is no such machine");
        outside("printByRuns", (x, machine) -> x.printByRuns(machine, 0));
        outside("printByRuns with a wrong number", (x, machine) -> x.printByRuns(machine, 5001));
        Document.says(11, "Throws IllegalArgumentException if a number is out of range");
        for (int steps : new int[] {LEAST, -1, 5001, MOST}) {
            refused(Kind.OPEN, BAD, "printByRuns of steps " + steps, x -> x.printByRuns(0, steps));
        }
    }

    private static void decide() {
        Document.says(13, "Throws IndexOutOfBoundsException if there is no such machine");
        outside("decide", (x, machine) -> x.decide(machine, 'h', 1));
        outside("decide with all else wrong", (x, machine) -> x.decide(machine, 'x', 0));
        Document.says(13, "Throws IllegalArgumentException if there is no such letter, or the bound is out of range");
        for (char letter : new char[] {0, 'a', 'd', 'g', 'i', 'm', 'o', 's', 'u', 'H', 'N', '?', LAST}) {
            refused(Kind.OPEN, BAD, "decide by " + (int) letter, x -> x.decide(0, letter, 1));
            refused(Kind.OPEN, BAD, "decide by " + (int) letter + " with an end", x -> x.decide(2, letter, 1));
        }
        char[] letters = {'h', 'c', 't', 'b', 'n'};
        int[] most = {5000, 500, 500, 8, 3};
        for (int i = 0; i < letters.length; i++) {
            char letter = letters[i];
            for (int bound : new int[] {LEAST, -1, 0, most[i] + 1, 5001, MOST}) {
                refused(Kind.OPEN, BAD, "decide by " + letter + " " + bound, x -> x.decide(1, letter, bound));
                refused(Kind.OPEN, BAD, "decide by " + letter + " " + bound + " with an end",
                        x -> x.decide(2, letter, bound));
            }
        }
        Document.says(13, "Throws UnsupportedOperationException if the machine has an end, for t, b and n");
        for (int i = 2; i < letters.length; i++) {
            char letter = letters[i];
            for (int bound : new int[] {1, most[i]}) {
                refused(Kind.OPEN, UnsupportedOperationException.class, "decide by " + letter + " " + bound,
                        x -> x.decide(2, letter, bound));
            }
        }
    }

    private static void verdicts() {
        Document.says(14, "Throws IndexOutOfBoundsException if there is no such machine");
        outside("verdict", (x, machine) -> x.verdict(machine));
        Document.says(17, "Throws IndexOutOfBoundsException if there is no such machine");
        outside("passes", (x, machine) -> x.passes(machine));
        Document.says(24, "Throws IndexOutOfBoundsException if there is no such machine");
        outside("isDisputed", (x, machine) -> x.isDisputed(machine));
    }

    private static void certificate() {
        Document.says(15, "Throws IndexOutOfBoundsException if there is no such machine");
        outside("certificate", (x, machine) -> x.certificate(machine, 'a'));
        outside("certificate with a wrong what", (x, machine) -> x.certificate(machine, 'x'));
        Document.says(15, "Throws IllegalArgumentException if there is no such what");
        for (char what : new char[] {0, 'c', 'e', 'A', 'B', 'D', '`', LAST}) {
            refused(Kind.OPEN, BAD, "certificate " + (int) what, x -> x.certificate(0, what));
            refused(Kind.OPEN, BAD, "certificate " + (int) what + " without one", x -> x.certificate(1, what));
        }
        Document.says(15, "Throws NoSuchElementException if it has no verdict");
        for (char what : new char[] {'d', 'a', 'b'}) {
            refused(Kind.OPEN, MISSING, "certificate " + what, x -> x.certificate(1, what));
            refused(Kind.FULL, MISSING, "certificate " + what + " of a copy", x -> x.certificate(3, what));
        }
    }

    private static void forge() {
        Document.says(16, "Throws IndexOutOfBoundsException if there is no such machine");
        outside("forge", (x, machine) -> x.forge(machine, 'a', 0));
        outside("forge with all else wrong", (x, machine) -> x.forge(machine, 'd', 5001));
        Document.says(16, "Throws IllegalArgumentException if there is no such what, or the number is out of range");
        for (int machine = 0; machine < 2; machine++) {
            int number = machine;
            for (char what : new char[] {0, 'd', 'c', 'A', 'B', '`', LAST}) {
                refused(Kind.OPEN, BAD, "forge " + (int) what, x -> x.forge(number, what, 0));
            }
            for (int wrong : new int[] {LEAST, -5001, 5001, MOST}) {
                refused(Kind.OPEN, BAD, "forge a " + wrong, x -> x.forge(number, 'a', wrong));
                refused(Kind.OPEN, BAD, "forge b " + wrong, x -> x.forge(number, 'b', wrong));
            }
        }
        Document.says(16, "Throws NoSuchElementException if it has no verdict");
        for (int number : new int[] {-5000, 0, 5000}) {
            refused(Kind.OPEN, MISSING, "forge a", x -> x.forge(1, 'a', number));
            refused(Kind.OPEN, MISSING, "forge b", x -> x.forge(2, 'b', number));
        }
    }

    private static void ways() {
        Document.says(18, "Throws IndexOutOfBoundsException if there is no such machine");
        outside("ways", (x, machine) -> x.ways(machine, 0));
        outside("ways with a wrong number", (x, machine) -> x.ways(machine, 5));
        Document.says(18, "Throws IllegalArgumentException if a number is out of range");
        for (int steps : new int[] {LEAST, -1, 5, MOST}) {
            refused(Kind.OPEN, BAD, "ways of steps " + steps, x -> x.ways(0, steps));
            refused(Kind.OPEN, BAD, "ways of steps " + steps, x -> x.ways(2, steps));
        }
    }

    private static void lists() {
        Document.says(19, "Throws IllegalArgumentException if a number is out of range, or there is no such what");
        Document.says(21, "Throws IllegalArgumentException if a number is out of range");
        for (int states : new int[] {LEAST, -1, 0, 3, MOST}) {
            refused(Kind.OPEN, BAD, "listed of states " + states, x -> x.listed(states, 1, 'h'));
            refused(Kind.OPEN, BAD, "haltingShare of states " + states, x -> x.haltingShare(states, 100));
        }
        for (int steps : new int[] {LEAST, -1, 0, 101, MOST}) {
            refused(Kind.OPEN, BAD, "listed of steps " + steps, x -> x.listed(2, steps, 'h'));
            refused(Kind.OPEN, BAD, "haltingShare of steps " + steps, x -> x.haltingShare(1, steps));
        }
        for (char what : new char[] {0, 'H', 'c', 't', 'g', 'i', 'l', 'p', 'r', LAST}) {
            refused(Kind.OPEN, BAD, "listed " + (int) what, x -> x.listed(1, 1, what));
        }
    }

    private static void champion() {
        Document.says(20, "Throws IllegalArgumentException if a number is out of range");
        for (Kind kind : Kind.values()) {
            for (int states : new int[] {LEAST, -1, 0, 3, MOST}) {
                refused(kind, BAD, "champion of states " + states, x -> x.champion(states, 1));
            }
            for (int steps : new int[] {LEAST, -1, 0, 101, MOST}) {
                refused(kind, BAD, "champion of steps " + steps, x -> x.champion(1, steps));
            }
        }
        Document.says(20, "Throws IllegalStateException if there are 16 machines");
        refused(Kind.FULL, STATE, "champion", x -> x.champion(1, 1));
        refused(Kind.FULL, STATE, "champion", x -> x.champion(2, 100));
    }

    private static void record() {
        Document.says(22, "Throws IllegalArgumentException if there is no such what");
        for (Kind kind : Kind.values()) {
            for (char what : new char[] {0, 'S', 'M', 'h', 'r', 't', 'l', 'n', LAST}) {
                refused(kind, BAD, "record " + (int) what, x -> x.record(what));
            }
        }
        Document.says(22, "Throws NoSuchElementException if there is none");
        for (char what : new char[] {'s', 'm'}) {
            refused(Kind.BARE, MISSING, "record " + what + " without machines", x -> x.record(what));
            refused(Kind.FULL, MISSING, "record " + what + ", none passes", x -> x.record(what));
        }
    }

    private static void tell() {
        Document.says(23, "Throws IndexOutOfBoundsException if there is no such machine");
        outside("tell", (x, machine) -> x.tell(0, machine, 'H'));
        outside("tell with all else wrong", (x, machine) -> x.tell(4, machine, 'x'));
        Document.says(23, "Throws IllegalArgumentException if there is no such worker or verdict");
        for (int worker : new int[] {LEAST, -1, 4, 16, MOST}) {
            refused(Kind.OPEN, BAD, "tell of worker " + worker, x -> x.tell(worker, 0, 'H'));
        }
        for (char verdict : new char[] {0, 'h', 'n', '?', 'G', 'I', 'M', 'O', LAST}) {
            refused(Kind.OPEN, BAD, "tell of verdict " + (int) verdict, x -> x.tell(0, 0, verdict));
        }
    }

    private static void holdoutAt() {
        Document.says(26, "Throws NoSuchElementException if there are not so many");
        // Of the open hall's machines, one has a verdict that passes; in the full hall none has.
        int[] holdouts = {0, 2, 16};
        for (Kind kind : Kind.values()) {
            Due.is("holdouts", made(kind).holdouts(), holdouts[kind.ordinal()]);
            for (int index : new int[] {LEAST, -1, holdouts[kind.ordinal()], 17, MOST}) {
                refused(kind, MISSING, "holdoutAt " + index, x -> x.holdoutAt(index));
            }
        }
    }

    private static void count() {
        Document.says(27, "Throws IllegalArgumentException if there is no such kind, register or place");
        for (Kind kind : Kind.values()) {
            for (char sign : new char[] {0, '*', ',', '.', 'p', LAST}) {
                refused(kind, BAD, "count of kind " + (int) sign, x -> x.count(sign, 0, 0, 0));
            }
            for (char sign : new char[] {'+', '-'}) {
                for (int register : new int[] {LEAST, -1, 4, MOST}) {
                    refused(kind, BAD, sign + " of register " + register, x -> x.count(sign, register, 0, 0));
                }
                for (int place : new int[] {LEAST, -1, 13, MOST}) {
                    refused(kind, BAD, sign + " to place " + place, x -> x.count(sign, 0, place, 0));
                }
            }
            for (int other : new int[] {LEAST, -1, 13, MOST}) {
                refused(kind, BAD, "- to the other place " + other, x -> x.count('-', 0, 0, other));
            }
        }
        Document.says(27, "Throws IllegalStateException if it has 12");
        refused(Kind.FULL, STATE, "a 13th +", x -> x.count('+', 0, 0, 0));
        refused(Kind.FULL, STATE, "a 13th -", x -> x.count('-', 3, 12, 12));
    }

    private static void runCounters() {
        Document.says(29, "Throws IllegalArgumentException if a number is out of range");
        for (int number : new int[] {LEAST, -1, 1001, MOST}) {
            refused(Kind.OPEN, BAD, "runCounters of first " + number, x -> x.runCounters(number, 0, 0));
            refused(Kind.OPEN, BAD, "runCounters of second " + number, x -> x.runCounters(0, number, 0));
        }
        for (int steps : new int[] {LEAST, -1, 5001, MOST}) {
            refused(Kind.OPEN, BAD, "runCounters of steps " + steps, x -> x.runCounters(0, 0, steps));
        }
    }

    private static void register() {
        Document.says(30, "Throws IndexOutOfBoundsException if there is no such register");
        for (int register : new int[] {LEAST, -1, 4, MOST}) {
            refused(Kind.OPEN, OUTSIDE, "register " + register, x -> x.register(register));
            refused(Kind.BARE, OUTSIDE, "register " + register, x -> x.register(register));
        }
    }

    private static void tagRow() {
        Document.says(31, "Throws IllegalArgumentException if there is no such letter, for either");
        for (Kind kind : Kind.values()) {
            for (char letter : new char[] {0, '`', 'e', 'A', 'D', LAST}) {
                refused(kind, BAD, "tagRow of " + (int) letter, x -> x.tagRow(letter, 'a'));
                refused(kind, BAD, "tagRow a with " + (int) letter, x -> x.tagRow('a', letter));
            }
        }
        Document.says(31, "Throws IllegalStateException if it has 6");
        for (char sign : new char[] {'a', 'b', 'c', 'd'}) {
            refused(Kind.FULL, STATE, "a 7th of tagRow", x -> x.tagRow('a', sign));
        }
    }

    private static void tagStart() {
        Document.says(32, "Throws IllegalArgumentException if there is no such letter");
        for (Kind kind : Kind.values()) {
            for (char letter : new char[] {0, '`', 'e', 'A', 'D', LAST}) {
                refused(kind, BAD, "tagStart of " + (int) letter, x -> x.tagStart(letter));
            }
        }
        Document.says(32, "Throws IllegalStateException if it has 40");
        refused(Kind.FULL, STATE, "a 41st of tagStart", x -> x.tagStart('a'));
        refused(Kind.FULL, STATE, "a 41st of tagStart", x -> x.tagStart('d'));
    }

    private static void tag() {
        Document.says(34, "Throws IllegalArgumentException if a number is out of range");
        for (int number : new int[] {LEAST, -2, 0, 1, 4, MOST}) {
            refused(Kind.OPEN, BAD, "tag by " + number, x -> x.tag(number, 1));
        }
        for (int steps : new int[] {LEAST, -1, 2001, MOST}) {
            refused(Kind.OPEN, BAD, "tag of steps " + steps, x -> x.tag(2, steps));
            refused(Kind.OPEN, BAD, "tag of steps " + steps, x -> x.tag(3, steps));
        }
    }

    private static void tagLetter() {
        Document.says(36, "Throws NoSuchElementException if there is none");
        // The rows behind a step by 3: of 4 letters a and a row of 3, 4; of 40 and a row of 6, 43.
        int[] lengths = {0, 4, 43};
        for (Kind kind : Kind.values()) {
            Due.is("tagLength", made(kind).tagLength(), lengths[kind.ordinal()]);
            for (int index : new int[] {LEAST, -1, lengths[kind.ordinal()], 400, MOST}) {
                refused(kind, MISSING, "tagLetter " + index, x -> x.tagLetter(index));
            }
        }
    }

    private static void fraction() {
        Document.says(37, "Throws IllegalArgumentException if a number is out of range");
        for (Kind kind : Kind.values()) {
            for (int number : new int[] {LEAST, -1, 0, 10001, MOST}) {
                refused(kind, BAD, "fraction over " + number, x -> x.fraction(number, 1));
                refused(kind, BAD, "fraction under " + number, x -> x.fraction(1, number));
            }
        }
        Document.says(37, "Throws IllegalStateException if there are 10");
        refused(Kind.FULL, STATE, "an 11th fraction", x -> x.fraction(1, 1));
        refused(Kind.FULL, STATE, "an 11th fraction", x -> x.fraction(10000, 10000));
    }

    private static void walk() {
        Document.says(39, "Throws IllegalArgumentException if a number is out of range");
        for (long number : new long[] {Long.MIN_VALUE, LEAST, -1, 0, 1000000001L, (1L << 32) + 1, Long.MAX_VALUE}) {
            refused(Kind.OPEN, BAD, "walk of " + number, x -> x.walk(number, 1));
        }
        for (int steps : new int[] {LEAST, -1, 5001, MOST}) {
            refused(Kind.OPEN, BAD, "walk of steps " + steps, x -> x.walk(1, steps));
        }
    }

    private static void meanMarks() {
        Document.says(42, "Throws ArithmeticException if there are none");
        refused(Kind.BARE, ArithmeticException.class, "meanMarks without machines", x -> x.meanMarks());
        refused(Kind.FULL, ArithmeticException.class, "meanMarks, none passes", x -> x.meanMarks());
    }
}
