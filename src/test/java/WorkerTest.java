/** Promises 22 to 26 and 42 to 44: records, workers, holdouts and sums over all machines. */
public final class WorkerTest {
    public static void main(String[] args) {
        records();
        tells();
        disputes();
        holdouts();
        means();
        checksums();
        isSound();
        Due.end();
    }

    private static void records() {
        Beaverhall x = new Beaverhall();
        Due.bad("record x of none", () -> x.record('x'));
        Due.missing("record s of none", () -> x.record('s'));
        Due.missing("record m of none", () -> x.record('m'));
        Told.swing(x, 'b');
        x.decide(0, 'c', 10);
        Due.missing("one that never halts", () -> x.record('s'));
        x.machine('b', 1, 2);
        Due.missing("one without a verdict", () -> x.record('s'));
        x.decide(1, 'h', 1);
        Due.is("s", x.record('s'), 1);
        Due.is("m", x.record('m'), 1);
        Told.beaver2(x);
        x.decide(2, 'h', 10);
        x.copy(2);
        x.decide(3, 'h', 10);
        Told.add(x, 'b', 3, 2, 11, 11, 12, 12, -1, -1);
        x.decide(4, 'h', 10);
        Due.is("s of several", x.record('s'), 2);
        Due.is("m of several", x.record('m'), 2);
        x.forge(2, 'b', 5);
        Due.is("s of those that pass", x.record('s'), 3);
        x.forge(3, 'a', 5000);
        Due.is("s of those that pass", x.record('s'), 4);
        Due.is("m of those that pass, the lowest one of several", x.record('m'), 1);
        Due.bad("record h", () -> x.record('h'));
        Told.add(x, 'b', 2, 3, 211, -1, -1, -1, -1, -1);
        x.decide(5, 'h', 10);
        Due.is("m is not s", x.record('m'), 5);
        Due.is("s is not m", x.record('s'), 4);
    }

    private static void tells() {
        Beaverhall x = new Beaverhall();
        Due.outside("no machine", () -> x.tell(9, 0, 'x'));
        Told.swing(x, 'b');
        Due.outside("no machine", () -> x.tell(0, 1, 'H'));
        Due.outside("no machine", () -> x.tell(0, -1, 'H'));
        for (int worker : new int[] {Integer.MIN_VALUE, -1, 4, Integer.MAX_VALUE}) {
            Due.bad("worker " + worker, () -> x.tell(worker, 0, 'H'));
        }
        for (char verdict : new char[] {'h', 'n', '?', 0, 'X'}) {
            Due.bad("verdict " + verdict, () -> x.tell(0, 0, verdict));
        }
        Due.is("tell", x.tell(0, 0, 'H'), 1);
        Due.is("tell again", x.tell(0, 0, 'N'), 1);
        Due.is("tell", x.tell(3, 0, 'H'), 2);
        Due.is("tell", x.tell(1, 0, 'H'), 3);
        Due.is("tell", x.tell(2, 0, 'H'), 4);
        Due.is("tell again", x.tell(2, 0, 'H'), 4);
        Told.swing(x, 'b');
        Due.is("tell of another one", x.tell(2, 1, 'H'), 1);
        Due.is("workers tell no verdict of the hall", x.verdict(1), '?');
    }

    private static void disputes() {
        Beaverhall x = new Beaverhall();
        Due.outside("no machine", () -> x.isDisputed(0));
        Told.swing(x, 'b');
        Due.outside("no machine", () -> x.isDisputed(-1));
        Due.is("nobody told", x.isDisputed(0), false);
        x.tell(0, 0, 'H');
        Due.is("one told", x.isDisputed(0), false);
        x.tell(3, 0, 'H');
        Due.is("two told alike", x.isDisputed(0), false);
        x.tell(3, 0, 'N');
        Due.is("two told unlike", x.isDisputed(0), true);
        x.tell(0, 0, 'N');
        Due.is("each the last one told", x.isDisputed(0), false);
        x.decide(0, 'c', 5);
        Due.is("told as its verdict", x.isDisputed(0), false);
        x.tell(0, 0, 'H');
        x.tell(3, 0, 'H');
        Due.is("told unlike its verdict", x.isDisputed(0), true);
        x.forge(0, 'a', -1);
        Due.is("whether that passes or not", x.isDisputed(0), true);
        x.untell(0, 1, 0);
        Due.is("the verdict is taken away, what was told is not", x.isDisputed(0), false);
        Due.is("the verdict is taken away, what was told is not", x.tell(1, 0, 'H'), 3);
        x.decide(0, 'h', 5);
        Due.is("told as its verdict", x.isDisputed(0), false);
        x.tell(1, 0, 'N');
        Due.is("one told unlike", x.isDisputed(0), true);
        Told.beaver2(x);
        x.decide(1, 'h', 5);
        Due.is("a verdict, nobody told", x.isDisputed(1), false);
        x.tell(2, 1, 'N');
        Due.is("one told unlike its verdict", x.isDisputed(1), true);
    }

    private static void holdouts() {
        Beaverhall x = new Beaverhall();
        Due.is("none", x.holdouts(), 0);
        Due.missing("none", () -> x.holdoutAt(0));
        Told.beaver2(x);
        Told.swing(x, 'b');
        Told.walkRight(x, 'b');
        Due.is("three", x.holdouts(), 3);
        Due.is("the first", x.holdoutAt(0), 0);
        Due.is("the last", x.holdoutAt(2), 2);
        for (int index : new int[] {Integer.MIN_VALUE, -1, 3, Integer.MAX_VALUE}) {
            Due.missing("holdoutAt " + index, () -> x.holdoutAt(index));
        }
        x.decide(1, 'c', 10);
        Due.is("two", x.holdouts(), 2);
        Due.is("the second", x.holdoutAt(1), 2);
        Due.missing("no third", () -> x.holdoutAt(2));
        x.decide(0, 'h', 10);
        Due.is("one", x.holdouts(), 1);
        Due.is("the only", x.holdoutAt(0), 2);
        x.forge(0, 'b', 3);
        Due.is("one that does not pass is a holdout", x.holdouts(), 2);
        Due.is("one that does not pass is a holdout", x.holdoutAt(0), 0);
        x.tell(0, 2, 'N');
        Due.is("workers tell without certificates", x.holdouts(), 2);
        x.forge(0, 'b', 4);
        x.decide(2, 't', 10);
        Due.is("none again", x.holdouts(), 0);
        Due.missing("none again", () -> x.holdoutAt(0));
    }

    private static void means() {
        Beaverhall x = new Beaverhall();
        Due.empty("none", () -> x.meanMarks());
        Told.beaver2(x);
        Due.empty("no verdict", () -> x.meanMarks());
        x.decide(0, 'h', 10);
        Due.is("one", x.meanMarks(), 4.0);
        x.machine('b', 1, 2);
        x.decide(1, 'h', 1);
        Due.is("two", x.meanMarks(), 2.0);
        Told.add(x, 'b', 2, 3, 211, -1, -1, -1, -1, -1);
        x.decide(2, 'h', 10);
        Due.is("three", x.meanMarks(), 5.0 / 3.0);
        Told.swing(x, 'b');
        x.decide(3, 'c', 10);
        Due.is("one that never halts", x.meanMarks(), 5.0 / 3.0);
        x.forge(0, 'a', 4);
        Due.is("one that does not pass", x.meanMarks(), 0.5);
        x.forge(1, 'a', 4);
        x.forge(2, 'a', 4);
        Due.empty("none passes", () -> x.meanMarks());
    }

    private static void checksums() {
        Beaverhall x = new Beaverhall();
        Due.is("no machine", x.checksum(), 7);
        x.machine('b', 1, 2);
        Due.is("no orders", x.checksum(), 7 * 31 * 31);
        x.order(0, 0, 1, 1, 'r', 0);
        Due.is("one order", x.checksum(), 7 * 31 * 31 + 42);
        x.order(0, 0, 0, 0, 'l', 0);
        Due.is("two orders", x.checksum(), (7 * 31 + 1) * 31 + 42);
        x.machine('o', 6, 4);
        x.order(1, 5, 3, 3, 'r', 5);
        x.order(1, 0, 0, 2, 'l', 5);
        long due = (7 * 31 + 1) * 31 + 42;
        for (int i = 0; i < 24; i++) {
            due = 31 * due + (i == 0 ? 1 + 2 + 20 : i == 23 ? 1 + 3 + 20 + 40 : 0);
        }
        Due.is("two machines", x.checksum(), due);
        x.run(0, 10);
        x.decide(0, 't', 10);
        x.tell(0, 0, 'H');
        Due.is("runs and verdicts count nothing", x.checksum(), due);
    }

    private static void isSound() {
        Beaverhall x = new Beaverhall();
        Told.beaver2(x);
        Told.beaver5(x);
        Told.swing(x, 'o');
        Told.walkLeft(x, 'b');
        x.champion(2, 50);
        for (int i = 0; i < 5; i++) {
            Due.is("before", x.isSound(), true);
            x.decide(i, 'h', 5000);
            x.decide(i, 'c', 500);
            if (i != 2) {
                x.decide(i, 't', 500);
                x.decide(i, 'b', 8);
                x.decide(i, 'n', 3);
            }
            Due.is("behind", x.isSound(), true);
        }
        x.run(1, 7);
        long print = x.print(1);
        x.isSound();
        Due.is("it changes no run", x.print(1), print);
        Due.is("verdicts without a proof that passes do not count", x.forge(0, 'b', 9) > 0 && x.isSound(), true);
    }
}
