import java.util.Arrays;
import java.util.NoSuchElementException;

/** A hall in which the smallest machines are judged. */
public final class Beaverhall {
    private static final int MOST_MACHINES = 16;
    private static final int MOST_STATES = 6;
    private static final int MOST_SIGNS = 4;
    private static final int EDGE = 500;
    private static final int CELLS = 2 * EDGE + 1;
    private static final int MOST_STEPS = 5000;
    private static final int MOST_RETURN_STEPS = 500;
    private static final int MOST_STEPS_BACK = 8;
    private static final int MOST_WAYS_STEPS = 4;
    private static final int WIDEST_ROW = 3;
    private static final int MOST_LOOKS = 2000;
    private static final int MOST_LISTED_STEPS = 100;
    private static final int SOUND_STEPS = 200;
    private static final int WORKERS = 4;
    private static final int UNTOLD = 0;
    private static final int RIGHT_CODE = 40;
    private static final char NOTHING = '?';

    private final Machine[] machines = new Machine[MOST_MACHINES];
    private int machineCount = 0;
    private final Judge judge = new Judge();
    private final Listing listing = new Listing();
    private final Counters counters = new Counters();
    private final Tags tags = new Tags();
    private final FractionWalk fractions = new FractionWalk();

    public Beaverhall() {
    }

    public int machine(char tape, int states, int signs) throws IllegalArgumentException, IllegalStateException {
        demand(tape == 'b' || tape == 'o');
        demand(isWithin(states, 1, MOST_STATES) && isWithin(signs, 2, MOST_SIGNS));
        demandRoom();
        return added(new Machine(tape == 'o', states, signs));
    }

    public int order(int machine, int state, int sign, int write, char move, int next)
            throws IndexOutOfBoundsException, IllegalArgumentException {
        Machine m = known(machine);
        demand(m.hasPlace(state, sign) && m.hasPlace(next, write));
        demand(move == 'l' || move == 'r');
        m.setOrder(state, sign, Machine.coded(write, move == 'r', next));
        m.forgetJudgement();
        return m.told;
    }

    public int untell(int machine, int state, int sign)
            throws IndexOutOfBoundsException, IllegalArgumentException, NoSuchElementException {
        Machine m = known(machine);
        demand(m.hasPlace(state, sign));
        demandFound(m.orderFor(state, sign) != UNTOLD);
        m.setOrder(state, sign, UNTOLD);
        m.forgetJudgement();
        return m.told;
    }

    public int copy(int machine) throws IndexOutOfBoundsException, IllegalStateException {
        Machine m = known(machine);
        demandRoom();
        Machine twin = new Machine(m.hasEnd, m.states, m.signs);
        twin.takeOrders(m);
        return added(twin);
    }

    public int run(int machine, int steps) throws IndexOutOfBoundsException, IllegalArgumentException {
        Machine m = known(machine);
        demand(isWithin(steps, 0, MOST_STEPS));
        m.last.go(m, steps);
        m.wasRun = true;
        return m.last.steps;
    }

    public boolean hasHalted(int machine) throws IndexOutOfBoundsException, NoSuchElementException {
        Machine m = known(machine);
        demandFound(m.wasRun);
        return m.last.isHalted(m);
    }

    public int ran(int machine, char what)
            throws IndexOutOfBoundsException, IllegalArgumentException, NoSuchElementException {
        Machine m = known(machine);
        demand(what == 's' || what == 'c' || what == 'm' || what == 'p' || what == 'l' || what == 'r');
        demandFound(m.wasRun);
        return m.last.partOf(what);
    }

    public int signAt(int machine, int cell) throws IndexOutOfBoundsException, NoSuchElementException {
        Machine m = known(machine);
        demandFound(m.wasRun);
        return m.last.signOf(cell);
    }

    public long print(int machine) throws IndexOutOfBoundsException, NoSuchElementException {
        Machine m = known(machine);
        demandFound(m.wasRun);
        return m.last.printed();
    }

    public long printByRuns(int machine, int steps) throws IndexOutOfBoundsException, IllegalArgumentException {
        Machine m = known(machine);
        demand(isWithin(steps, 0, MOST_STEPS));
        return judge.printedByRuns(m, steps);
    }

    public int runsOf(int machine) throws IndexOutOfBoundsException, NoSuchElementException {
        Machine m = known(machine);
        demandFound(m.wasRun);
        return m.last.likeRows();
    }

    public boolean decide(int machine, char letter, int bound)
            throws IndexOutOfBoundsException, IllegalArgumentException, UnsupportedOperationException {
        Machine m = known(machine);
        demand(isWithin(bound, 1, Judge.mostBound(letter)));
        if (m.hasEnd && letter != 'h' && letter != 'c') {
            throw new UnsupportedOperationException();
        }
        return judge.decides(m, letter, bound);
    }

    public char verdict(int machine) throws IndexOutOfBoundsException {
        return known(machine).judgement();
    }

    public int certificate(int machine, char what)
            throws IndexOutOfBoundsException, IllegalArgumentException, NoSuchElementException {
        Machine m = known(machine);
        demand(what == 'd' || what == 'a' || what == 'b');
        demandFound(m.letter != NOTHING);
        if (what == 'd') {
            return m.letter;
        }
        return what == 'a' ? m.first : m.second;
    }

    public int forge(int machine, char what, int number)
            throws IndexOutOfBoundsException, IllegalArgumentException, NoSuchElementException {
        Machine m = known(machine);
        demand(what == 'a' || what == 'b');
        demand(isWithin(number, -MOST_STEPS, MOST_STEPS));
        demandFound(m.letter != NOTHING);
        int before = what == 'a' ? m.first : m.second;
        if (what == 'a') {
            m.first = number;
        } else {
            m.second = number;
        }
        return before;
    }

    public boolean passes(int machine) throws IndexOutOfBoundsException {
        return judge.upholds(known(machine));
    }

    public int ways(int machine, int steps) throws IndexOutOfBoundsException, IllegalArgumentException {
        Machine m = known(machine);
        demand(isWithin(steps, 0, MOST_WAYS_STEPS));
        return judge.waysBack.waysOf(m, steps);
    }

    public int listed(int states, int steps, char what) throws IllegalArgumentException {
        demandListing(states, steps);
        demand(what == 'h' || what == 'n' || what == 'o' || what == 's' || what == 'm');
        listing.list(judge, states, steps);
        return listing.partOf(what);
    }

    public int champion(int states, int steps) throws IllegalArgumentException, IllegalStateException {
        demandListing(states, steps);
        demandRoom();
        listing.list(judge, states, steps);
        Machine m = new Machine(false, states, 2);
        m.takeOrders(listing.best);
        return added(m);
    }

    public float haltingShare(int states, int steps) throws IllegalArgumentException {
        demandListing(states, steps);
        listing.list(judge, states, steps);
        int all = listing.halting + listing.endless + listing.open;
        return all == 0 ? 0 : (float) listing.halting / (float) all;
    }

    public int record(char what) throws IllegalArgumentException, NoSuchElementException {
        demand(what == 's' || what == 'm');
        int best = -1;
        int most = -1;
        for (int i = 0; i < machineCount; i++) {
            Machine m = known(i);
            int number = what == 's' ? m.first : m.second;
            if (haltsSurely(m) && number > most) {
                best = i;
                most = number;
            }
        }
        demandFound(best >= 0);
        return best;
    }

    public int tell(int worker, int machine, char verdict) throws IndexOutOfBoundsException, IllegalArgumentException {
        Machine m = known(machine);
        demand(isWithin(worker, 0, WORKERS - 1) && (verdict == 'H' || verdict == 'N'));
        return m.hear(worker, verdict);
    }

    public boolean isDisputed(int machine) throws IndexOutOfBoundsException {
        return known(machine).hasClash();
    }

    public int holdouts() {
        int count = 0;
        for (int i = 0; i < machineCount; i++) {
            if (!judge.upholds(known(i))) {
                count++;
            }
        }
        return count;
    }

    public int holdoutAt(int index) throws NoSuchElementException {
        int found = -1;
        int count = 0;
        for (int i = 0; i < machineCount && found < 0; i++) {
            if (!judge.upholds(known(i))) {
                if (count == index) {
                    found = i;
                }
                count++;
            }
        }
        demandFound(found >= 0);
        return found;
    }

    public int count(char kind, int register, int place, int other)
            throws IllegalArgumentException, IllegalStateException {
        demand(kind == '+' || kind == '-');
        demand(isWithin(register, 0, Counters.REGISTERS - 1) && isWithin(place, 0, Counters.MOST_ORDERS));
        demand(kind == '+' || isWithin(other, 0, Counters.MOST_ORDERS));
        if (counters.size >= Counters.MOST_ORDERS) {
            throw new IllegalStateException();
        }
        counters.add(kind == '+', register, place, other);
        return counters.size;
    }

    public int uncount() {
        int before = counters.size;
        counters.size = 0;
        return before;
    }

    public int runCounters(int first, int second, int steps) throws IllegalArgumentException {
        demand(isWithin(first, 0, Counters.MOST_AT_FIRST) && isWithin(second, 0, Counters.MOST_AT_FIRST));
        demand(isWithin(steps, 0, MOST_STEPS));
        return counters.go(first, second, steps);
    }

    public int register(int register) throws IndexOutOfBoundsException {
        if (!isWithin(register, 0, Counters.REGISTERS - 1)) {
            throw new IndexOutOfBoundsException();
        }
        return at(counters.registers, register);
    }

    public int tagRow(char letter, char sign) throws IllegalArgumentException, IllegalStateException {
        demand(isWithin(letter, 'a', 'd') && isWithin(sign, 'a', 'd'));
        if (tags.rowLength(letter) >= Tags.LONGEST_ROW) {
            throw new IllegalStateException();
        }
        tags.addToRow(letter, sign);
        return tags.rowLength(letter);
    }

    public int tagStart(char letter) throws IllegalArgumentException, IllegalStateException {
        demand(isWithin(letter, 'a', 'd'));
        if (tags.startLength >= Tags.LONGEST_START) {
            throw new IllegalStateException();
        }
        tags.addToStart(letter);
        return tags.startLength;
    }

    public int untag() {
        return tags.forget();
    }

    public int tag(int number, int steps) throws IllegalArgumentException {
        demand(number == 2 || number == 3);
        demand(isWithin(steps, 0, Tags.MOST_TAG_STEPS));
        return tags.go(number, steps);
    }

    public int tagLength() {
        return tags.length;
    }

    public char tagLetter(int index) throws NoSuchElementException {
        demandFound(isWithin(index, 0, tags.length - 1));
        return tags.letterAt(index);
    }

    public int fraction(int over, int under) throws IllegalArgumentException, IllegalStateException {
        demand(isWithin(over, 1, FractionWalk.MOST_PART) && isWithin(under, 1, FractionWalk.MOST_PART));
        if (fractions.size >= FractionWalk.MOST_FRACTIONS) {
            throw new IllegalStateException();
        }
        fractions.add(over, under);
        return fractions.size;
    }

    public int unwalk() {
        int before = fractions.size;
        fractions.size = 0;
        return before;
    }

    public long walk(long number, int steps) throws IllegalArgumentException {
        demand(number >= 1 && number <= FractionWalk.MOST_AT_FIRST);
        demand(isWithin(steps, 0, MOST_STEPS));
        return fractions.go(number, steps);
    }

    public int walked() {
        return fractions.steps;
    }

    public boolean hasWalked() {
        return fractions.hasEnded;
    }

    public double meanMarks() throws ArithmeticException {
        long sum = 0;
        int number = 0;
        for (int i = 0; i < machineCount; i++) {
            Machine m = known(i);
            if (haltsSurely(m)) {
                sum += m.second;
                number++;
            }
        }
        if (number == 0) {
            throw new ArithmeticException();
        }
        return (double) sum / (double) number;
    }

    public long checksum() {
        long sum = 7;
        for (int i = 0; i < machineCount; i++) {
            sum = known(i).addedTo(sum);
        }
        return sum;
    }

    public boolean isSound() {
        for (int i = 0; i < machineCount; i++) {
            if (!judge.isSoundFor(known(i))) {
                return false;
            }
        }
        return true;
    }

    private Machine known(int number) {
        Machine m = number >= 0 && number < machineCount && number < machines.length ? machines[number] : null;
        if (m == null) {
            throw new IndexOutOfBoundsException();
        }
        return m;
    }

    private int added(Machine m) {
        int number = machineCount;
        if (number < machines.length) {
            machines[number] = m;
            machineCount = number + 1;
        }
        return number;
    }

    private boolean haltsSurely(Machine m) {
        return m.judgement() == 'H' && judge.upholds(m);
    }

    private void demandRoom() {
        if (machineCount >= MOST_MACHINES) {
            throw new IllegalStateException();
        }
    }

    private static void demandListing(int states, int steps) {
        demand(isWithin(states, 1, 2) && isWithin(steps, 1, MOST_LISTED_STEPS));
    }

    private static void demand(boolean holds) {
        if (!holds) {
            throw new IllegalArgumentException();
        }
    }

    private static void demandFound(boolean found) {
        if (!found) {
            throw new NoSuchElementException();
        }
    }

    private static boolean isWithin(int number, int least, int most) {
        return number >= least && number <= most;
    }

    private static int at(int[] row, int index) {
        return index >= 0 && index < row.length ? row[index] : 0;
    }

    private static void put(int[] row, int index, int number) {
        if (index >= 0 && index < row.length) {
            row[index] = number;
        }
    }

    /** A machine with its orders, its verdict, its last run and what the workers told of it. */
    private static final class Machine {
        final boolean hasEnd;
        final int states;
        final int signs;
        final Run last = new Run();
        boolean wasRun = false;
        int told = 0;
        char letter = NOTHING;
        int first = 0;
        int second = 0;
        // An order is kept as the number that the checksum asks for, 0 being one that is not told.
        private final int[] orders = new int[MOST_STATES * MOST_SIGNS];
        private final int[] heard = new int[WORKERS];

        Machine(boolean hasEnd, int states, int signs) {
            this.hasEnd = hasEnd;
            this.states = states;
            this.signs = signs;
        }

        static int coded(int write, boolean right, int next) {
            return 1 + write + MOST_SIGNS * next + (right ? RIGHT_CODE : 0);
        }

        static int moveOf(int order) {
            return order > RIGHT_CODE ? 1 : -1;
        }

        static int writeOf(int order) {
            return (order - 1) % RIGHT_CODE % MOST_SIGNS;
        }

        static int nextOf(int order) {
            return (order - 1) % RIGHT_CODE / MOST_SIGNS;
        }

        boolean hasPlace(int state, int sign) {
            return state >= 0 && state < states && sign >= 0 && sign < signs;
        }

        int orderFor(int state, int sign) {
            boolean isPlace = state >= 0 && state < states && sign >= 0 && sign < signs;
            int index = state * MOST_SIGNS + sign;
            return isPlace && index < orders.length ? orders[index] : UNTOLD;
        }

        void setOrder(int state, int sign, int order) {
            if (!hasPlace(state, sign)) {
                return;
            }
            int before = orderFor(state, sign);
            told += (order == UNTOLD ? 0 : 1) - (before == UNTOLD ? 0 : 1);
            put(orders, state * MOST_SIGNS + sign, order);
        }

        void takeOrders(Machine from) {
            for (int state = 0; state < states; state++) {
                for (int sign = 0; sign < signs; sign++) {
                    setOrder(state, sign, from.orderFor(state, sign));
                }
            }
        }

        void forgetJudgement() {
            letter = NOTHING;
            wasRun = false;
        }

        char judgement() {
            if (letter == NOTHING) {
                return NOTHING;
            }
            return letter == 'h' ? 'H' : 'N';
        }

        int hear(int worker, char verdict) {
            put(heard, worker, verdict);
            int tellers = 0;
            for (int each : heard) {
                tellers += each == 0 ? 0 : 1;
            }
            return tellers;
        }

        boolean hasClash() {
            boolean halts = letter != NOTHING && judgement() == 'H';
            boolean never = letter != NOTHING && judgement() == 'N';
            for (int each : heard) {
                halts = halts || each == 'H';
                never = never || each == 'N';
            }
            return halts && never;
        }

        long addedTo(long start) {
            long sum = start;
            for (int state = 0; state < states; state++) {
                for (int sign = 0; sign < signs; sign++) {
                    sum = 31 * sum + orderFor(state, sign);
                }
            }
            return sum;
        }
    }

    /** A tape with a head, and what a plain run makes of it. */
    private static final class Run {
        int state = 0;
        int cell = 0;
        int steps = 0;
        int leftmost = 0;
        int rightmost = 0;
        boolean hasFallen = false;
        private final int[] tape = new int[CELLS];

        int signOf(int where) {
            return where >= -EDGE && where <= EDGE ? tape[where + EDGE] : 0;
        }

        void write(int where, int sign) {
            if (where >= -EDGE && where <= EDGE) {
                tape[where + EDGE] = sign;
            }
        }

        void begin() {
            Arrays.fill(tape, 0);
            state = 0;
            cell = 0;
            steps = 0;
            leftmost = 0;
            rightmost = 0;
            hasFallen = false;
        }

        /** Does a step if there is one; one that would go beyond the last cell is none. */
        boolean step(Machine m) {
            int order = hasFallen ? UNTOLD : m.orderFor(state, signOf(cell));
            if (order == UNTOLD) {
                return false;
            }
            int to = cell + Machine.moveOf(order);
            boolean falls = m.hasEnd && to < 0;
            if (!falls && (to < -EDGE || to > EDGE)) {
                return false;
            }
            write(cell, Machine.writeOf(order));
            state = Machine.nextOf(order);
            hasFallen = falls;
            cell = falls ? cell : to;
            leftmost = Math.min(leftmost, cell);
            rightmost = Math.max(rightmost, cell);
            steps++;
            return true;
        }

        void go(Machine m, int most) {
            begin();
            for (int i = 0; i < most; i++) {
                if (!step(m)) {
                    break;
                }
            }
        }

        boolean isHalted(Machine m) {
            return hasFallen || m.orderFor(state, signOf(cell)) == UNTOLD;
        }

        void takeTape(Run from) {
            System.arraycopy(from.tape, 0, tape, 0, CELLS);
        }

        boolean isAs(Run other) {
            if (state != other.state || cell != other.cell) {
                return false;
            }
            int from = Math.min(leftmost, other.leftmost);
            int to = Math.max(rightmost, other.rightmost);
            for (int i = from; i <= to; i++) {
                if (signOf(i) != other.signOf(i)) {
                    return false;
                }
            }
            return true;
        }

        /** Compares so many signs from a cell on, against the side, with those of another tape. */
        boolean isLikeBehind(int here, Run other, int there, int width, int side) {
            for (int i = 0; i < width; i++) {
                if (signOf(here - i * side) != other.signOf(there - i * side)) {
                    return false;
                }
            }
            return true;
        }

        int marks() {
            int count = 0;
            for (int i = leftmost; i <= rightmost; i++) {
                count += signOf(i) == 0 ? 0 : 1;
            }
            return count;
        }

        int likeRows() {
            int count = 1;
            for (int i = leftmost; i < rightmost; i++) {
                count += signOf(i) == signOf(i + 1) ? 0 : 1;
            }
            return count;
        }

        long printed() {
            long sum = 31 * (31 * 7L + state) + cell;
            for (int i = leftmost; i <= rightmost; i++) {
                sum = 31 * sum + signOf(i);
            }
            return sum;
        }

        int partOf(char what) {
            if (what == 's') {
                return state;
            }
            if (what == 'c') {
                return cell;
            }
            if (what == 'm') {
                return marks();
            }
            if (what == 'p') {
                return rightmost - leftmost + 1;
            }
            return what == 'l' ? leftmost : rightmost;
        }
    }

    /** A run whose tape is kept as rows of like signs with their lengths, on both sides of the head. */
    private static final class RunByRows {
        private static final int LEFT = 0;
        private static final int RIGHT = 1;
        int steps = 0;
        private int state = 0;
        private int cell = 0;
        private int sign = 0;
        private boolean hasFallen = false;
        // Both sides in one row each: the left one first, each beginning with what is farthest from the head.
        private final int[] rowSigns = new int[2 * CELLS];
        private final int[] rowLengths = new int[2 * CELLS];
        private final int[] counts = new int[2];

        void go(Machine m, int most) {
            state = 0;
            cell = 0;
            sign = 0;
            steps = 0;
            hasFallen = false;
            put(counts, LEFT, 0);
            put(counts, RIGHT, 0);
            for (int i = 0; i < most; i++) {
                if (!step(m)) {
                    break;
                }
            }
        }

        private boolean step(Machine m) {
            int order = hasFallen ? UNTOLD : m.orderFor(state, sign);
            if (order == UNTOLD) {
                return false;
            }
            int to = cell + Machine.moveOf(order);
            hasFallen = m.hasEnd && to < 0;
            if (!hasFallen && (to < -EDGE || to > EDGE)) {
                return false;
            }
            state = Machine.nextOf(order);
            sign = Machine.writeOf(order);
            steps++;
            if (!hasFallen) {
                moveTo(to);
            }
            return true;
        }

        private void moveTo(int to) {
            int behind = to > cell ? LEFT : RIGHT;
            push(behind, sign);
            sign = pull(RIGHT - behind);
            cell = to;
        }

        private void push(int side, int what) {
            int count = at(counts, side);
            int top = side * CELLS + count - 1;
            if (count > 0 && at(rowSigns, top) == what) {
                put(rowLengths, top, at(rowLengths, top) + 1);
            } else if (count < CELLS) {
                put(rowSigns, top + 1, what);
                put(rowLengths, top + 1, 1);
                put(counts, side, count + 1);
            }
        }

        private int pull(int side) {
            int count = at(counts, side);
            if (count == 0) {
                return 0;
            }
            int top = side * CELLS + count - 1;
            int length = at(rowLengths, top) - 1;
            put(rowLengths, top, length);
            if (length == 0) {
                put(counts, side, count - 1);
            }
            return at(rowSigns, top);
        }

        long printed() {
            long sum = 31 * (31 * 7L + state) + cell;
            for (int i = 0; i < at(counts, LEFT); i++) {
                sum = withRow(sum, i);
            }
            sum = 31 * sum + sign;
            for (int i = at(counts, RIGHT) - 1; i >= 0; i--) {
                sum = withRow(sum, CELLS + i);
            }
            return sum;
        }

        private long withRow(long start, int row) {
            long sum = start;
            for (int i = 0; i < at(rowLengths, row); i++) {
                sum = 31 * sum + at(rowSigns, row);
            }
            return sum;
        }
    }

    /** Looks for what 'c' and 't' find: a run written down, and taken back from its end. */
    private static final class Returns {
        int first = 0;
        int second = 0;
        private final Run now = new Run();
        private final Run then = new Run();
        private int length = 0;
        private final int[] cells = new int[MOST_RETURN_STEPS + 1];
        private final int[] states = new int[MOST_RETURN_STEPS + 1];
        private final int[] reads = new int[MOST_RETURN_STEPS + 1];
        private final int[] firsts = new int[MOST_RETURN_STEPS + 1];

        boolean comesBack(Machine m, int bound) {
            writeDown(m, bound);
            if (length < bound) {
                return false;
            }
            int period = periodAtEnd();
            if (period == 0) {
                return false;
            }
            first = leastStart(m, period);
            second = period;
            return true;
        }

        boolean comesBackFarther(Machine m, int bound) {
            writeDown(m, bound);
            return comesFarther(m, 1) || comesFarther(m, -1);
        }

        /** A fall from the end is left out, as a machine that fell has halted where it seems to go on. */
        private void writeDown(Machine m, int bound) {
            now.begin();
            length = 0;
            put(cells, 0, 0);
            put(states, 0, 0);
            for (int i = 0; i < bound && i < MOST_RETURN_STEPS; i++) {
                put(reads, i, now.signOf(now.cell));
                if (!now.step(m) || now.hasFallen) {
                    break;
                }
                length = i + 1;
                put(cells, length, now.cell);
                put(states, length, now.state);
            }
        }

        /**
         * A run that comes back within its steps is in its circle at their end, so that the last time at which it
         * was as at the end tells the circle's length.
         */
        private int periodAtEnd() {
            then.takeTape(now);
            int unlike = 0;
            for (int i = length - 1; i >= 0; i--) {
                int cell = at(cells, i);
                unlike -= then.signOf(cell) == now.signOf(cell) ? 0 : 1;
                then.write(cell, at(reads, i));
                unlike += then.signOf(cell) == now.signOf(cell) ? 0 : 1;
                if (unlike == 0 && cell == now.cell && at(states, i) == now.state) {
                    return length - i;
                }
            }
            return 0;
        }

        private int leastStart(Machine m, int period) {
            then.begin();
            now.begin();
            for (int i = 0; i < period; i++) {
                now.step(m);
            }
            int start = 0;
            while (start + period < length && !now.isAs(then)) {
                then.step(m);
                now.step(m);
                start++;
            }
            return start;
        }

        private boolean comesFarther(Machine m, int side) {
            now.begin();
            put(firsts, 0, 0);
            int count = 1;
            int far = 0;
            for (int i = 1; i <= length; i++) {
                now.step(m);
                if (now.cell * side > far) {
                    far = now.cell * side;
                    int start = leastLike(i, side, count);
                    if (start >= 0) {
                        first = start;
                        second = i * side;
                        return true;
                    }
                    put(firsts, count, i);
                    count++;
                }
            }
            return false;
        }

        /** Takes the run back step by step, as what the tape was earlier is written down nowhere. */
        private int leastLike(int end, int side, int count) {
            then.takeTape(now);
            int least = -1;
            int near = now.cell * side;
            int step = end;
            for (int k = count - 1; k >= 0; k--) {
                int start = at(firsts, k);
                for (; step > start; step--) {
                    int cell = at(cells, step - 1);
                    then.write(cell, at(reads, step - 1));
                    near = Math.min(near, cell * side);
                }
                int cell = at(cells, start);
                if (at(states, start) == now.state
                        && now.isLikeBehind(now.cell, then, cell, cell * side - near + 1, side)) {
                    least = start;
                }
            }
            return least;
        }
    }

    /** All ways back from the orders that are not told. */
    private static final class WaysBack {
        private static final int UNKNOWN = -1;
        private static final int MIDDLE = MOST_STEPS_BACK + 1;
        private boolean isProving = false;
        private boolean couldBegin = false;
        private int bound = 0;
        private final int[] known = new int[2 * MIDDLE + 1];
        private final int[] counts = new int[MOST_STEPS_BACK + 1];

        int waysOf(Machine m, int steps) {
            isProving = false;
            follow(m, steps);
            return at(counts, steps);
        }

        boolean provesUnreachable(Machine m, int most) {
            isProving = true;
            follow(m, most);
            return !isRefuted();
        }

        int stepsInAll() {
            int sum = 0;
            for (int i = 1; i < counts.length; i++) {
                sum += at(counts, i);
            }
            return sum;
        }

        int longest() {
            int most = 0;
            for (int i = 1; i < counts.length; i++) {
                most = at(counts, i) > 0 ? i : most;
            }
            return most;
        }

        private boolean isRefuted() {
            return couldBegin || at(counts, bound) > 0;
        }

        private void follow(Machine m, int most) {
            bound = most;
            couldBegin = false;
            Arrays.fill(counts, 0);
            Arrays.fill(known, UNKNOWN);
            for (int state = 0; state < m.states; state++) {
                for (int sign = 0; sign < m.signs; sign++) {
                    if (m.orderFor(state, sign) == UNTOLD) {
                        put(known, MIDDLE, sign);
                        goBack(this, m, state, MIDDLE, 0);
                    }
                }
            }
        }

        private static void goBack(WaysBack ways, Machine m, int state, int place, int depth) {
            if (depth > ways.bound || depth > MOST_STEPS_BACK || ways.isProving && ways.isRefuted()) {
                return;
            }
            put(ways.counts, depth, at(ways.counts, depth) + 1);
            ways.couldBegin = ways.couldBegin || state == 0 && ways.isAllZero();
            for (int before = 0; before < m.states && depth < ways.bound; before++) {
                for (int sign = 0; sign < m.signs; sign++) {
                    int order = m.orderFor(before, sign);
                    int from = place - Machine.moveOf(order);
                    if (order != UNTOLD && Machine.nextOf(order) == state && ways.canHave(from, order)) {
                        int kept = at(ways.known, from);
                        put(ways.known, from, sign);
                        goBack(ways, m, before, from, depth + 1);
                        put(ways.known, from, kept);
                    }
                }
            }
        }

        private boolean canHave(int place, int order) {
            int sign = at(known, place);
            return sign == UNKNOWN || sign == Machine.writeOf(order);
        }

        private boolean isAllZero() {
            for (int sign : known) {
                if (sign > 0) {
                    return false;
                }
            }
            return true;
        }
    }

    /** Looks and rows that are stepped until none is new. */
    private static final class Looks {
        private static final int ROW_BITS = 2 * WIDEST_ROW;
        private static final int ROW_MASK = (1 << ROW_BITS) - 1;
        int size = 0;
        private int width = 1;
        private boolean hasHalt = false;
        // A row is a number of two bits a sign, the nearest one lowest; all rows of a side are bits of a long.
        private long leftRows = 0;
        private long rightRows = 0;
        private final int[] looks = new int[MOST_LOOKS + 1];
        private final int[] seen = new int[(MOST_STATES * MOST_SIGNS << 2 * ROW_BITS) / 32];

        boolean closeIn(Machine m, int n) {
            width = n;
            size = 0;
            hasHalt = false;
            leftRows = 1;
            rightRows = 1;
            Arrays.fill(seen, 0);
            add(0, 0, 0, 0);
            int before = 0;
            // Each round but the last brings a look or a row, so that there are fewer than this.
            for (int round = 0; round < 2 * MOST_LOOKS && size + rows() > before && isOpen(); round++) {
                before = size + rows();
                for (int i = 0; i < size && isOpen(); i++) {
                    stepLook(m, at(looks, i));
                }
            }
            return isOpen();
        }

        int rows() {
            return Long.bitCount(leftRows) + Long.bitCount(rightRows);
        }

        private boolean isOpen() {
            return !hasHalt && size <= MOST_LOOKS;
        }

        private void stepLook(Machine m, int look) {
            int order = m.orderFor(look >> 2 * ROW_BITS + 2, look >> 2 * ROW_BITS & 3);
            if (order == UNTOLD) {
                hasHalt = true;
                return;
            }
            boolean right = Machine.moveOf(order) > 0;
            int left = look >> ROW_BITS & ROW_MASK;
            int other = look & ROW_MASK;
            int behind = right ? left : other;
            int ahead = right ? other : left;
            leftRows |= right ? 1L << behind : 0;
            rightRows |= right ? 0 : 1L << behind;
            int grown = (behind << 2 | Machine.writeOf(order)) & (1 << 2 * width) - 1;
            long rowsAhead = right ? rightRows : leftRows;
            for (int sign = 0; sign < m.signs; sign++) {
                int shown = ahead >> 2 | sign << 2 * (width - 1);
                if ((rowsAhead >>> shown & 1) != 0) {
                    add(Machine.nextOf(order), ahead & 3, right ? grown : shown, right ? shown : grown);
                }
            }
        }

        private void add(int state, int sign, int left, int right) {
            int look = (state << 2 | sign) << 2 * ROW_BITS | left << ROW_BITS | right;
            int bit = 1 << (look & 31);
            if ((at(seen, look >> 5) & bit) == 0) {
                put(seen, look >> 5, at(seen, look >> 5) | bit);
                put(looks, size, look);
                size++;
            }
        }
    }

    /** The deciders, and the checker, which believes none of them. */
    private static final class Judge {
        final Run now = new Run();
        final Returns returns = new Returns();
        final WaysBack waysBack = new WaysBack();
        private final Run then = new Run();
        private final RunByRows byRows = new RunByRows();
        private final Looks looks = new Looks();

        static int mostBound(char letter) {
            if (letter == 'h') {
                return MOST_STEPS;
            }
            if (letter == 'c' || letter == 't') {
                return MOST_RETURN_STEPS;
            }
            if (letter == 'b') {
                return MOST_STEPS_BACK;
            }
            return letter == 'n' ? WIDEST_ROW : 0;
        }

        long printedByRuns(Machine m, int steps) {
            byRows.go(m, steps);
            return byRows.printed();
        }

        boolean decides(Machine m, char letter, int bound) {
            if (letter == 'h') {
                now.go(m, bound);
                return keeps(m, letter, now.isHalted(m), now.steps, now.marks());
            }
            if (letter == 'c') {
                return keeps(m, letter, returns.comesBack(m, bound), returns.first, returns.second);
            }
            if (letter == 't') {
                return keeps(m, letter, returns.comesBackFarther(m, bound), returns.first, returns.second);
            }
            if (letter == 'b') {
                boolean found = waysBack.provesUnreachable(m, bound);
                return keeps(m, letter, found, waysBack.stepsInAll(), waysBack.longest());
            }
            return keeps(m, letter, looks.closeIn(m, bound), looks.size, looks.rows());
        }

        private static boolean keeps(Machine m, char letter, boolean found, int first, int second) {
            if (found) {
                m.letter = letter;
                m.first = first;
                m.second = second;
            }
            return found;
        }

        boolean upholds(Machine m) {
            if (m.letter == 'h') {
                return haltsJustSo(m, m.first, m.second);
            }
            if (m.letter == 'c') {
                return comesBackSo(m, m.first, m.second);
            }
            if (m.letter == 't') {
                return comesFartherSo(m, m.first, Math.abs(m.second), m.second < 0 ? -1 : 1);
            }
            if (m.letter == 'b') {
                // A proof found with some bound is found with the greatest one too.
                return waysBack.provesUnreachable(m, MOST_STEPS_BACK)
                        && waysBack.stepsInAll() == m.first && waysBack.longest() == m.second;
            }
            return m.letter == 'n' && isClosedInSo(m, m.first, m.second);
        }

        private boolean haltsJustSo(Machine m, int steps, int marks) {
            now.go(m, steps);
            return now.isHalted(m) && now.steps == steps && now.marks() == marks;
        }

        private boolean comesBackSo(Machine m, int start, int period) {
            if (start < 0 || period < 1) {
                return false;
            }
            then.go(m, start);
            now.go(m, start + period);
            return then.steps == start && now.steps == start + period && !now.hasFallen && now.isAs(then);
        }

        private boolean comesFartherSo(Machine m, int start, int end, int side) {
            if (start < 0 || start >= end) {
                return false;
            }
            now.begin();
            int far = 0;
            int near = 0;
            int startState = 0;
            int startCell = 0;
            boolean isFirst = true;
            for (int step = 0; step <= end; step++) {
                if (step > 0 && !now.step(m)) {
                    return false;
                }
                isFirst = step == 0 || now.cell * side > far;
                far = Math.max(far, now.cell * side);
                if (step == start) {
                    if (!isFirst) {
                        return false;
                    }
                    then.takeTape(now);
                    startState = now.state;
                    startCell = now.cell;
                    near = now.cell * side;
                }
                near = Math.min(near, now.cell * side);
            }
            return isFirst && now.state == startState
                    && now.isLikeBehind(now.cell, then, startCell, startCell * side - near + 1, side);
        }

        private boolean isClosedInSo(Machine m, int size, int rows) {
            for (int n = 1; n <= WIDEST_ROW; n++) {
                if (looks.closeIn(m, n) && looks.size == size && looks.rows() == rows) {
                    return true;
                }
            }
            return false;
        }

        boolean isSoundFor(Machine m) {
            if (upholds(m)) {
                now.go(m, MOST_STEPS);
                if (now.isHalted(m) != (m.judgement() == 'H')) {
                    return false;
                }
            }
            now.go(m, SOUND_STEPS);
            return printedByRuns(m, SOUND_STEPS) == now.printed() && byRows.steps == now.steps;
        }
    }

    /** All machines of a size, listed as a tree. */
    private static final class Listing {
        private static final int SIGNS = 2;
        final Machine best = new Machine(false, 2, SIGNS);
        int halting = 0;
        int endless = 0;
        int open = 0;
        private int mostSteps = 0;
        private int mostMarks = 0;
        private int states = 0;
        private int steps = 0;
        private final Machine grown = new Machine(false, 2, SIGNS);

        /** What is listed depends on these numbers alone, so that the last list is used again. */
        void list(Judge judge, int states, int steps) {
            if (states == this.states && steps == this.steps) {
                return;
            }
            this.states = states;
            this.steps = steps;
            halting = 0;
            endless = 0;
            open = 0;
            mostSteps = -1;
            mostMarks = 0;
            grow(this, judge, 1, 0);
        }

        int partOf(char what) {
            if (what == 'h') {
                return halting;
            }
            if (what == 'n') {
                return endless;
            }
            if (what == 'o') {
                return open;
            }
            return what == 's' ? mostSteps : mostMarks;
        }

        /** The states used are the first so many ones, as each new one is the least that was not used. */
        private static void grow(Listing list, Judge judge, int used, int depth) {
            Run now = judge.now;
            now.go(list.grown, list.steps);
            if (!now.isHalted(list.grown)) {
                boolean never = judge.returns.comesBack(list.grown, list.steps)
                        || judge.returns.comesBackFarther(list.grown, list.steps);
                list.endless += never ? 1 : 0;
                list.open += never ? 0 : 1;
                return;
            }
            list.countHalted(now);
            int orders = list.states * SIGNS;
            if (list.grown.told + 1 >= orders || depth >= orders) {
                return;
            }
            int state = now.state;
            int sign = now.signOf(now.cell);
            int nexts = Math.min(list.states, used + 1);
            for (int write = 0; write < SIGNS; write++) {
                for (int right = depth == 0 ? 1 : 0; right <= 1; right++) {
                    for (int next = 0; next < nexts; next++) {
                        list.grown.setOrder(state, sign, Machine.coded(write, right == 1, next));
                        grow(list, judge, Math.max(used, next + 1), depth + 1);
                    }
                }
            }
            list.grown.setOrder(state, sign, UNTOLD);
        }

        private void countHalted(Run run) {
            halting++;
            mostMarks = Math.max(mostMarks, run.marks());
            if (run.steps > mostSteps) {
                mostSteps = run.steps;
                best.takeOrders(grown);
            }
        }
    }

    /** The counter machine. */
    private static final class Counters {
        static final int MOST_ORDERS = 12;
        static final int REGISTERS = 4;
        static final int MOST_AT_FIRST = 1000;
        int size = 0;
        final int[] registers = new int[REGISTERS];
        private final int[] ups = new int[MOST_ORDERS];
        private final int[] targets = new int[MOST_ORDERS];
        private final int[] places = new int[MOST_ORDERS];
        private final int[] others = new int[MOST_ORDERS];

        void add(boolean up, int target, int place, int other) {
            put(ups, size, up ? 1 : 0);
            put(targets, size, target);
            put(places, size, place);
            put(others, size, other);
            size = Math.min(size + 1, MOST_ORDERS);
        }

        int go(int first, int second, int most) {
            Arrays.fill(registers, 0);
            put(registers, 0, first);
            put(registers, 1, second);
            int place = 0;
            int steps = 0;
            while (steps < most && place < size) {
                place = step(place);
                steps++;
            }
            return steps;
        }

        private int step(int place) {
            int target = at(targets, place);
            int number = at(registers, target);
            if (at(ups, place) == 1) {
                put(registers, target, number + 1);
                return at(places, place);
            }
            if (number == 0) {
                return at(others, place);
            }
            put(registers, target, number - 1);
            return at(places, place);
        }
    }

    /** The tag row. */
    private static final class Tags {
        static final int LETTERS = 4;
        static final int LONGEST_ROW = 6;
        static final int LONGEST_START = 40;
        static final int LONGEST = 400;
        static final int MOST_TAG_STEPS = 2000;
        int startLength = 0;
        int length = 0;
        // Letters are kept as numbers from 0.
        private final int[] start = new int[LONGEST_START];
        private final int[] rows = new int[LETTERS * LONGEST_ROW];
        private final int[] rowLengths = new int[LETTERS];
        private final int[] letters = new int[LONGEST];

        int rowLength(char letter) {
            return at(rowLengths, letter - 'a');
        }

        void addToRow(char letter, char sign) {
            int row = letter - 'a';
            int before = at(rowLengths, row);
            if (before < LONGEST_ROW) {
                put(rows, row * LONGEST_ROW + before, sign - 'a');
                put(rowLengths, row, before + 1);
            }
        }

        void addToStart(char letter) {
            if (startLength < LONGEST_START) {
                put(start, startLength, letter - 'a');
                startLength++;
            }
        }

        int forget() {
            int sum = startLength;
            for (int each : rowLengths) {
                sum += each;
            }
            startLength = 0;
            Arrays.fill(rowLengths, 0);
            return sum;
        }

        int go(int number, int most) {
            length = startLength;
            System.arraycopy(start, 0, letters, 0, LONGEST_START);
            for (int i = 0; i < most; i++) {
                if (!step(number)) {
                    return i;
                }
            }
            return most;
        }

        private boolean step(int number) {
            int row = at(letters, 0);
            int kept = length - number;
            int longer = kept + at(rowLengths, row);
            if (kept < 0 || longer > LONGEST) {
                return false;
            }
            for (int i = 0; i < kept; i++) {
                put(letters, i, at(letters, i + number));
            }
            for (int i = kept; i < longer; i++) {
                put(letters, i, at(rows, row * LONGEST_ROW + i - kept));
            }
            length = longer;
            return true;
        }

        char letterAt(int index) {
            return (char) ('a' + at(letters, index));
        }
    }

    /** The walk of a number by fractions. */
    private static final class FractionWalk {
        static final int MOST_FRACTIONS = 10;
        static final int MOST_PART = 10000;
        static final long MOST_AT_FIRST = 1000000000L;
        private static final long MOST = 1000000000000000L;
        int size = 0;
        int steps = 0;
        boolean hasEnded = false;
        private long number = 0;
        private final int[] overs = new int[MOST_FRACTIONS];
        private final int[] unders = new int[MOST_FRACTIONS];

        /** Kept in lowest terms, so that a product is whole just if the lower part divides the number. */
        void add(int over, int under) {
            int common = commonPart(over, under);
            if (size < MOST_FRACTIONS && common > 0) {
                put(overs, size, over / common);
                put(unders, size, under / common);
                size++;
            }
        }

        private static int commonPart(int one, int other) {
            int larger = one;
            int smaller = other;
            for (int i = 0; i < 64 && smaller > 0; i++) {
                int rest = larger % smaller;
                larger = smaller;
                smaller = rest;
            }
            return larger;
        }

        long go(long from, int most) {
            number = from;
            steps = 0;
            for (int i = 0; i < most; i++) {
                if (!step()) {
                    break;
                }
                steps++;
            }
            hasEnded = firstWhole() < 0;
            return number;
        }

        private int firstWhole() {
            for (int i = 0; i < size; i++) {
                int under = at(unders, i);
                if (under > 0 && number % under == 0) {
                    return i;
                }
            }
            return -1;
        }

        /** The product is compared before it is made, as it may be too large for a long. */
        private boolean step() {
            int which = firstWhole();
            int over = at(overs, which);
            int under = at(unders, which);
            if (over <= 0 || under <= 0 || number / under > MOST / over) {
                return false;
            }
            number = number / under * over;
            return true;
        }
    }
}
