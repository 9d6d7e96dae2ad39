/** The terms of the deciders and of the checker, sentence by sentence, at the bounds that they name. */
public final class DeciderTermsTest {
    private static final int TERMS = Document.TERMS;

    public static void main(String[] args) {
        haltsAtTheBound();
        verdictsOfLetters();
        comesBackAtTheBound();
        comesBackWithTheSameTape();
        comesBackTheLeast();
        comesFartherAtTheBound();
        comesFartherForTheFirstTime();
        comesFartherWithLikeSigns();
        comesFartherToTheLeft();
        unreachableFromTheBeginnings();
        unreachableWithKnownSigns();
        unreachableWithinTheBound();
        unreachableCounted();
        closedInWithin();
        closedInSteps();
        closedInLooks();
        closedInOrders();
        endsAreRefused();
        checksHalts();
        checksReturns();
        checksFarther();
        checksTheOthers();
        Due.end();
    }

    private static void found(Beaverhall x, int machine, char letter, int bound, int a, int b) {
        String name = letter + " of " + bound;
        Due.is(name, x.decide(machine, letter, bound), true);
        Due.is(name + ": verdict", x.verdict(machine), letter == 'h' ? 'H' : 'N');
        Due.is(name + ": decider", x.certificate(machine, 'd'), letter);
        Due.is(name + ": a", x.certificate(machine, 'a'), a);
        Due.is(name + ": b", x.certificate(machine, 'b'), b);
        Due.is(name + ": passes", x.passes(machine), true);
        Due.is(name + ": isSound", x.isSound(), true);
    }

    private static void none(Beaverhall x, int machine, char letter, int bound) {
        Due.is(letter + " of " + bound + " finds none", x.decide(machine, letter, bound), false);
    }

    private static void haltsAtTheBound() {
        Document.says(TERMS, "'h' the machine halts: after a steps, at most the bound, 1 to 5000; b is its marks.");
        Beaverhall x = new Beaverhall();
        x.machine('b', 1, 2);
        found(x, 0, 'h', 1, 0, 0);
        Told.add(x, 'b', 2, 3, 211, -1, -1, -1, -1, -1);
        found(x, 1, 'h', 1, 1, 1);
        Told.beaver2(x);
        none(x, 2, 'h', 1);
        none(x, 2, 'h', 4);
        Due.is("no verdict yet", x.verdict(2), '?');
        found(x, 2, 'h', 5, 5, 4);
        found(x, 2, 'h', 6, 5, 4);
        found(x, 2, 'h', 5000, 5, 4);
        Told.walkRight(x, 'b');
        none(x, 3, 'h', 499);
        none(x, 3, 'h', 500);
        none(x, 3, 'h', 501);
        none(x, 3, 'h', 5000);
        Told.walkLeft(x, 'o');
        found(x, 4, 'h', 1, 1, 1);
    }

    private static void verdictsOfLetters() {
        Document.says(TERMS, "Verdict 'H'; the other ones tell 'N', it never halts.");
        Beaverhall x = new Beaverhall();
        Told.swing(x, 'b');
        Told.walkRight(x, 'b');
        Told.beaver2(x);
        for (int machine = 0; machine < 2; machine++) {
            for (char letter : new char[] {'c', 't', 'b', 'n'}) {
                if (x.decide(machine, letter, 3)) {
                    Due.is("verdict of " + letter, x.verdict(machine), 'N');
                    x.untell(machine, 0, 0);
                    x.order(machine, 0, 0, machine, 'r', machine == 0 ? 1 : 0);
                    Due.is("no verdict", x.verdict(machine), '?');
                }
            }
        }
        x.decide(2, 'h', 10);
        Due.is("verdict of h", x.verdict(2), 'H');
        for (char letter : new char[] {'c', 't', 'b', 'n'}) {
            none(x, 2, letter, 3);
            Due.is("verdict of h stays", x.verdict(2), 'H');
        }
    }

    private static void comesBackAtTheBound() {
        Document.says(TERMS, "a and b together at most the bound, 1 to 500");
        Beaverhall x = new Beaverhall();
        Told.swing(x, 'b');
        none(x, 0, 'c', 1);
        found(x, 0, 'c', 2, 0, 2);
        found(x, 0, 'c', 3, 0, 2);
        found(x, 0, 'c', 500, 0, 2);
        // Three steps to the right, ahead of a swing.
        Told.add(x, 'o', 5, 2, 11, -1, 12, -1, 13, -1, 14, -1, 3, -1);
        none(x, 1, 'c', 4);
        found(x, 1, 'c', 5, 3, 2);
        found(x, 1, 'c', 6, 3, 2);
        Told.walkRight(x, 'b');
        none(x, 2, 'c', 500);
        Told.beaver2(x);
        none(x, 3, 'c', 500);
        // It halts just where it was at first, beyond its end.
        Told.add(x, 'o', 1, 2, 0, 0);
        none(x, 4, 'c', 1);
        none(x, 4, 'c', 500);
    }

    private static void comesBackWithTheSameTape() {
        Document.says(TERMS, "it is in the same state on the same cell with the same tape");
        Beaverhall x = new Beaverhall();
        // To and fro between two cells; the first one is 0 and 1 in turns.
        Told.add(x, 'b', 2, 2, 111, 11, 0, -1);
        none(x, 0, 'c', 3);
        found(x, 0, 'c', 4, 0, 4);
        // The same, the cell being 0, 1, 2 and 3 in turns.
        Told.add(x, 'b', 2, 4, 111, 211, 311, 11, 0, -1, -1, -1);
        none(x, 1, 'c', 7);
        found(x, 1, 'c', 8, 0, 8);
        // The first cell is 1 for ever from the first step on: the tape is like from there alone.
        Told.add(x, 'b', 2, 2, 111, 111, 0, -1);
        none(x, 2, 'c', 2);
        found(x, 2, 'c', 3, 1, 2);
        // A tape that grows is never the same.
        Told.add(x, 'b', 2, 2, 101, 110, 110, 101);
        none(x, 3, 'c', 500);
    }

    private static void comesBackTheLeast() {
        Document.says(TERMS, "a the least one, then b.");
        Beaverhall x = new Beaverhall();
        Told.swing(x, 'b');
        found(x, 0, 'c', 499, 0, 2);
        // It is also as it was behind 1 and 2 more steps, and behind 0 and 4 more.
        int[][] others = {{1, 2}, {0, 4}, {3, 6}};
        for (int[] each : others) {
            x.forge(0, 'a', each[0]);
            x.forge(0, 'b', each[1]);
            Due.is("another one passes", x.passes(0), true);
            found(x, 0, 'c', 500, 0, 2);
        }
    }

    private static void comesFartherAtTheBound() {
        Document.says(TERMS, "b at most the bound, 1 to 500, the least b, then the least a; the cell 0 counts as such a "
                + "first one, behind 0 steps, to both sides.");
        Beaverhall x = new Beaverhall();
        Told.walkRight(x, 'b');
        found(x, 0, 't', 1, 0, 1);
        found(x, 0, 't', 500, 0, 1);
        Told.walkLeft(x, 'b');
        found(x, 1, 't', 1, 0, -1);
        found(x, 1, 't', 500, 0, -1);
        Told.add(x, 'b', 2, 2, 11, 11, 10, 10);
        none(x, 2, 't', 1);
        found(x, 2, 't', 2, 0, 2);
        found(x, 2, 't', 3, 0, 2);
        // One step in a state to which it never comes back.
        Told.add(x, 'b', 2, 2, 111, -1, 111, -1);
        none(x, 3, 't', 1);
        found(x, 3, 't', 2, 1, 2);
        Told.swing(x, 'b');
        none(x, 4, 't', 500);
        Told.beaver2(x);
        none(x, 5, 't', 500);
    }

    private static void comesFartherForTheFirstTime() {
        Document.says(TERMS, "behind b steps it is for the first time on a cell to the right of all before, as it was "
                + "behind a less than b steps");
        Beaverhall x = new Beaverhall();
        // r, r, l: behind 3 steps it is in the state 0 on the cell 1, where it has been; the cell 3 is new behind 5.
        TermsTest.forthAndBack(x, 'b');
        none(x, 0, 't', 4);
        found(x, 0, 't', 5, 2, 5);
        int[][] notNew = {{0, 3}, {1, 4}, {2, 2}, {5, 2}, {0, 6}, {3, 6}};
        for (int[] each : notNew) {
            x.forge(0, 'a', each[0]);
            x.forge(0, 'b', each[1]);
            Due.is("passes with " + each[0] + " " + each[1], x.passes(0), false);
        }
    }

    private static void comesFartherWithLikeSigns() {
        Document.says(TERMS, "in the same state, and the signs on as many cells, from its cell then to the left, are "
                + "behind b steps as behind a, as there are from its cell behind a steps to the leftmost cell on which "
                + "it was from the step a to b");
        Beaverhall x = new Beaverhall();
        // Forth and back, three steps for one cell; what it leaves behind are ones.
        Told.add(x, 'b', 3, 3, 111, 111, 111, 112, 112, 112, 200, 200, 200);
        found(x, 0, 't', 500, 2, 5);
        // Each way back goes to the left end of the ones, and the rows of ones are longer each time.
        Told.add(x, 'b', 2, 2, 101, 110, 110, 101);
        none(x, 1, 't', 500);
        // It looks back on the cell that it left, behind 1 step on a 2, behind 4, 7 and 10 steps on a 1.
        Told.add(x, 'b', 4, 3, 212, -1, -1, 112, -1, -1, 3, -1, -1, -1, 111, 211);
        none(x, 2, 't', 6);
        found(x, 2, 't', 7, 4, 7);
        passes(x, 2, 1, 4, false);
        passes(x, 2, 1, 7, false);
        passes(x, 2, 1, 10, false);
        passes(x, 2, 4, 10, true);
        passes(x, 2, 7, 10, true);
    }

    private static void comesFartherToTheLeft() {
        Document.says(TERMS, "It is looked for to the right first, then to the left with the same bound; for machines "
                + "without ends alone; found to the left, b is told as -b.");
        Document.says(TERMS, "or all that to the left and with leftmost and rightmost exchanged");
        Beaverhall x = new Beaverhall();
        Told.add(x, 'b', 3, 2, 1, 1, 2, 2, 10, 10);
        none(x, 0, 't', 4);
        found(x, 0, 't', 5, 2, -5);
        x.forge(0, 'b', 5);
        Due.is("not to the right", x.passes(0), false);
        x.forge(0, 'b', -8);
        Due.is("three steps later", x.passes(0), true);
        x.forge(0, 'b', -6);
        Due.is("four steps later", x.passes(0), false);
        Told.walkLeft(x, 'b');
        found(x, 1, 't', 1, 0, -1);
        x.forge(1, 'b', -500);
        Due.is("on the last cell", x.passes(1), true);
        x.forge(1, 'b', -501);
        Due.is("no step leads beyond it", x.passes(1), false);
    }

    private static void unreachableFromTheBeginnings() {
        Document.says(TERMS, "none of what is come to, the beginnings too, could be the beginning of the run, in the "
                + "state 0, all known signs 0.");
        Beaverhall x = new Beaverhall();
        x.machine('b', 1, 2);
        none(x, 0, 'b', 1);
        none(x, 0, 'b', 8);
        // The beginning itself is not told, though nothing comes to it.
        Told.add(x, 'b', 2, 2, -1, 11, 11, 11);
        none(x, 1, 'b', 8);
        // One step back from it, the state 0 on a 0: it halts there.
        Told.add(x, 'b', 2, 2, 111, 111, -1, 111);
        none(x, 2, 'b', 8);
        // One step back from a 1 that the state 0 read: the sign known is 1, and nothing comes to it.
        Told.add(x, 'b', 3, 2, 12, 11, -1, 12, 12, 12);
        found(x, 3, 'b', 2, 1, 1);
        // No step back at all, in another state, on a 0.
        Told.add(x, 'b', 2, 2, 110, 110, -1, -1);
        found(x, 4, 'b', 1, 0, 0);
        // No step back at all, in the state 0, on a 1.
        Told.add(x, 'b', 2, 2, 11, -1, 11, 11);
        found(x, 5, 'b', 1, 0, 0);
    }

    private static void unreachableWithKnownSigns() {
        Document.says(TERMS, "each order that is told, whose next state is this, and whose move comes to the cell, from "
                + "the cell from which it came, if that one can have the sign that it writes; there it had the sign of "
                + "that order.");
        Beaverhall x = new Beaverhall();
        // One step back from a 1 in either state; a second one would find a 1 where 0 was written.
        Told.swing(x, 'b');
        found(x, 0, 'b', 2, 2, 1);
        Due.is("one step back from each", x.ways(0, 1), 2);
        Due.is("none of two", x.ways(0, 2), 0);
        // The same with a 1 written: the cell can have it.
        x.order(0, 0, 0, 1, 'r', 1);
        Due.is("one step back from each", x.ways(0, 1), 2);
        Due.is("one of two", x.ways(0, 2), 1);
    }

    private static void unreachableWithinTheBound() {
        Document.says(TERMS, "All end before there are as many steps back as the bound, 1 to 8");
        Beaverhall x = new Beaverhall();
        Told.swing(x, 'b');
        none(x, 0, 'b', 1);
        Due.is("none found, no verdict", x.verdict(0), '?');
        for (int bound = 2; bound <= 8; bound++) {
            found(x, 0, 'b', bound, 2, 1);
        }
        // No end of the ways back: one more step to the right each time.
        Told.add(x, 'b', 1, 2, 10, -1);
        for (int bound = 1; bound <= 8; bound++) {
            none(x, 1, 'b', bound);
        }
        Told.add(x, 'b', 5, 3, 101, 211, 214, 14, 104, -1, 204, 13, 101, 0, -1, 104, 13, 13, 212);
        none(x, 2, 'b', 7);
        found(x, 2, 'b', 8, 97, 7);
    }

    private static void unreachableCounted() {
        Document.says(TERMS, "a is the number of steps back, all ways together, one that two ways have in common counted "
                + "once; b the greatest number of steps in a way.");
        Document.says(TERMS, "'b' it cannot be reached: from each order that is not told, as its state on a cell with "
                + "its sign, nothing else being known, all ways back are followed");
        Beaverhall x = new Beaverhall();
        Told.walkRight(x, 'b');
        found(x, 0, 'b', 1, 0, 0);
        // One step back, then two ways on from there: three steps, as the first one is common to both.
        Told.add(x, 'b', 3, 2, 101, 10, 111, 2, -1, 11);
        none(x, 1, 'b', 2);
        found(x, 1, 'b', 3, 3, 2);
        found(x, 1, 'b', 8, 3, 2);
        Due.is("one of one step", x.ways(1, 1), 1);
        Due.is("two of two steps", x.ways(1, 2), 2);
        Due.is("none of three", x.ways(1, 3), 0);
        // Two ways with nothing but their beginning in common, of 1 and of 6 steps.
        Told.add(x, 'b', 4, 2, 100, 110, 2, 103, 102, 113, -1, 111);
        none(x, 2, 'b', 6);
        found(x, 2, 'b', 7, 7, 6);
        int[] ways = {1, 2, 1, 1, 1};
        for (int i = 0; i <= 4; i++) {
            Due.is("ways of " + i, x.ways(2, i), ways[i]);
        }
    }

    private static void closedInWithin() {
        Document.says(TERMS, "'n' it is closed in: with n of 1 to 3, the bound, a look is a state, the sign of its cell, "
                + "and n signs on each side.");
        Document.says(TERMS, "Looks, and rows of n signs of the left and of the right, begin with all 0.");
        Beaverhall x = new Beaverhall();
        Told.swing(x, 'b');
        // Two looks, of both states, and the row of 0 on each side.
        for (int n = 1; n <= 3; n++) {
            found(x, 0, 'n', n, 2, 2);
        }
        Told.walkRight(x, 'b');
        // The row on the left is 0, then 1 at its near end, and so on to n of them; on the right it is 0.
        for (int n = 1; n <= 3; n++) {
            found(x, 1, 'n', n, n + 1, n + 2);
        }
        Told.walkLeft(x, 'b');
        for (int n = 1; n <= 3; n++) {
            found(x, 2, 'n', n, n + 1, n + 2);
        }
    }

    private static void closedInSteps() {
        Document.says(TERMS, "Each look is stepped: the row of n signs on the side that it leaves, nearest first, is put "
                + "to the rows of that side, and is then followed by the sign written, which becomes the nearest one, "
                + "its farthest one being left out; the nearest one of the other side becomes that of its cell; as its "
                + "new farthest one each sign is taken with which the new row of that side is one of the rows of that "
                + "side.");
        Beaverhall x = new Beaverhall();
        // To and fro for ever; the first cell is 0 at first, then 1: with n of 1, what is known of the sides is little.
        Told.add(x, 'b', 2, 2, 111, 111, 0, -1);
        // Looks, as left, cell, right in a state: 0 0 0 in 0; 1 0 0 in 1; 0 1 0 in 0. Rows: 0 left, 0 right.
        found(x, 0, 'n', 1, 3, 2);
        found(x, 0, 'n', 2, 3, 2);
        found(x, 0, 'n', 3, 3, 2);
        // It halts on the 1 that it wrote, one step to the right and one to the left later.
        Told.add(x, 'b', 2, 2, 111, -1, 0, -1);
        for (int n = 1; n <= 3; n++) {
            none(x, 1, 'n', n);
        }
        // Two steps to the right, writing 1, then to the left over both for ever: no 1 is read but those two.
        Told.add(x, 'b', 3, 2, 111, -1, 112, -1, 2, 2);
        for (int n = 1; n <= 3; n++) {
            Due.is("n of " + n, x.decide(2, 'n', n), true);
            Due.is("passes", x.passes(2), true);
        }
    }

    private static void closedInLooks() {
        Document.says(TERMS, "All rows and looks that come are kept, until none is new, or there are more than 2000 "
                + "looks, when nothing is found.");
        Beaverhall x = new Beaverhall();
        Told.add(x, 'b', 5, 4, 201, 113, 100, 301, 314, 200, 210, 304, 112, 313, 211, 13, 11, 203, 13, 4,
                201, 210, 114, 112);
        found(x, 0, 'n', 2, 2000, 31);
        Told.add(x, 'b', 5, 3, 213, 202, 212, 14, 200, 3, 4, 104, 101, 200, 11, 113, 2, 200, 202);
        found(x, 1, 'n', 3, 2000, 45);
        Told.add(x, 'b', 5, 4, 102, 2, 104, 110, 204, 1, 211, 10, 313, 112, 304, 301, 202, 14, 314, 112,
                113, 3, 213, 302);
        none(x, 2, 'n', 2);
        Told.add(x, 'b', 5, 4, 214, 314, 14, 313, 311, 202, 114, 313, 214, 3, 302, 300, 303, 111, 201, 112,
                303, 200, 101, 110);
        none(x, 3, 'n', 3);
        Due.is("nothing found, no verdict", x.verdict(3), '?');
    }

    private static void closedInOrders() {
        Document.says(TERMS, "It is closed in if no look is of an order that is not told; a is the number of looks, b "
                + "that of all rows.");
        Beaverhall x = new Beaverhall();
        x.machine('b', 6, 4);
        none(x, 0, 'n', 1);
        Told.swing(x, 'b');
        found(x, 1, 'n', 1, 2, 2);
        // All orders are told, so that no look can be of another one.
        Told.add(x, 'b', 1, 2, 110, 100);
        found(x, 2, 'n', 1, 2, 3);
        Told.beaver2(x);
        for (int n = 1; n <= 3; n++) {
            none(x, 3, 'n', n);
        }
    }

    private static void endsAreRefused() {
        Document.says(TERMS, "For machines without ends alone.");
        Beaverhall x = new Beaverhall();
        Told.swing(x, 'o');
        Due.unsupported("t", () -> x.decide(0, 't', 500));
        Due.unsupported("b", () -> x.decide(0, 'b', 8));
        Due.unsupported("n", () -> x.decide(0, 'n', 3));
        Due.is("no verdict", x.verdict(0), '?');
        none(x, 0, 'h', 5000);
        found(x, 0, 'c', 500, 0, 2);
        Due.unsupported("t", () -> x.decide(0, 't', 1));
        Due.is("the verdict stays", x.certificate(0, 'd'), 'c');
    }

    private static void passes(Beaverhall x, int machine, int a, int b, boolean due) {
        x.forge(machine, 'a', a);
        x.forge(machine, 'b', b);
        Due.is("passes with " + a + " " + b, x.passes(machine), due);
    }

    private static void checksHalts() {
        Document.says(TERMS, "The checker looks at a verdict with its letter and numbers anew: 'h' that it halts behind "
                + "just a steps with b marks");
        Beaverhall x = new Beaverhall();
        Told.beaver2(x);
        found(x, 0, 'h', 10, 5, 4);
        for (int a : new int[] {-5000, -5, -1, 0, 1, 4, 6, 5000}) {
            passes(x, 0, a, 4, false);
        }
        for (int b : new int[] {-5000, -4, -1, 0, 3, 5, 5000}) {
            passes(x, 0, 5, b, false);
        }
        passes(x, 0, 5, 4, true);
        x.machine('b', 1, 2);
        found(x, 1, 'h', 1, 0, 0);
        passes(x, 1, -1, 0, false);
        passes(x, 1, 1, 0, false);
        passes(x, 1, 0, 1, false);
        passes(x, 1, 0, 0, true);
        // It goes beyond its end with its first step.
        Told.walkLeft(x, 'o');
        found(x, 2, 'h', 1, 1, 1);
        passes(x, 2, 0, 0, false);
        passes(x, 2, 2, 1, false);
    }

    private static void checksReturns() {
        Document.says(TERMS, "'c' that both tapes, states and cells are alike, b being 1 or more");
        Beaverhall x = new Beaverhall();
        Told.add(x, 'b', 2, 2, 111, 11, 0, -1);
        found(x, 0, 'c', 4, 0, 4);
        // Alike but for the tape, for the cell and the state, or in nothing; no step between; backwards; ahead of 0.
        int[][] wrong = {{0, 2}, {0, 1}, {0, 3}, {0, 0}, {4, 0}, {4, -4}, {0, -4}, {-4, 4}, {-1, 5}, {-5000, 5000}};
        for (int[] each : wrong) {
            passes(x, 0, each[0], each[1], false);
        }
        int[][] right = {{0, 4}, {1, 4}, {3, 8}, {0, 5000}, {5000, 4}, {5000, 5000}};
        for (int[] each : right) {
            passes(x, 0, each[0], each[1], true);
        }
        // Alike but for the state: four states in turns on two cells.
        Told.add(x, 'b', 4, 2, 11, -1, 2, -1, 13, -1, 0, -1);
        found(x, 1, 'c', 4, 0, 4);
        passes(x, 1, 0, 2, false);
        passes(x, 1, 1, 2, false);
        // Alike but for the cell: to and fro between two marks.
        Told.add(x, 'b', 6, 2, 111, -1, 12, -1, 13, -1, 104, -1, 4, 115, 15, 104);
        found(x, 2, 'c', 10, 4, 6);
        passes(x, 2, 4, 1, false);
        passes(x, 2, 7, 1, false);
        passes(x, 2, 8, 6, true);
        // Alike but for the sign of the rightmost cell.
        Told.add(x, 'b', 2, 2, 101, 1, 10, -1);
        found(x, 3, 'c', 4, 0, 4);
        passes(x, 3, 0, 2, false);
        // A part of the way that does not come again.
        Told.add(x, 'o', 5, 2, 11, -1, 12, -1, 13, -1, 14, -1, 3, -1);
        found(x, 4, 'c', 5, 3, 2);
        passes(x, 4, 2, 2, false);
        passes(x, 4, 2, 3, false);
        passes(x, 4, 4, 2, true);
    }

    private static void checksFarther() {
        Document.says(TERMS, "'t' that all that is told holds for a and b, whether they are the least or not");
        Beaverhall x = new Beaverhall();
        Told.walkRight(x, 'b');
        found(x, 0, 't', 1, 0, 1);
        int[][] right = {{0, 1}, {0, 2}, {1, 2}, {0, 500}, {499, 500}};
        for (int[] each : right) {
            passes(x, 0, each[0], each[1], true);
        }
        int[][] wrong = {{0, 0}, {1, 1}, {2, 1}, {-1, 1}, {-5000, 5000}, {0, -1}, {0, 501}, {500, 501}, {5000, 5000}};
        for (int[] each : wrong) {
            passes(x, 0, each[0], each[1], false);
        }
    }

    private static void checksTheOthers() {
        Document.says(TERMS, "'b' and 'n', with any bound, that the numbers are those found, and prove it.");
        Beaverhall x = new Beaverhall();
        Told.swing(x, 'b');
        found(x, 0, 'b', 2, 2, 1);
        for (int[] each : new int[][] {{1, 1}, {3, 1}, {2, 0}, {2, 2}, {-2, 1}, {2, -1}, {0, 0}, {5000, 5000}}) {
            passes(x, 0, each[0], each[1], false);
        }
        passes(x, 0, 2, 1, true);
        Told.walkRight(x, 'b');
        found(x, 1, 'b', 1, 0, 0);
        passes(x, 1, 1, 0, false);
        passes(x, 1, 0, 1, false);
        found(x, 1, 'n', 1, 2, 3);
        // What is found with the other bounds; then what mixes two of them, or is found with none.
        passes(x, 1, 3, 4, true);
        passes(x, 1, 4, 5, true);
        for (int[] each : new int[][] {{2, 4}, {3, 3}, {4, 4}, {3, 5}, {1, 2}, {5, 6}, {-2, 3}, {2, -3}, {0, 0}}) {
            passes(x, 1, each[0], each[1], false);
        }
        // Numbers of another bound than the one with which it was found: 3, then 1.
        found(x, 1, 'n', 3, 4, 5);
        passes(x, 1, 2, 3, true);
    }
}
