/** Promises 13 to 18: deciders, certificates and the checker. */
public final class DeciderTest {
    public static void main(String[] args) {
        refusals();
        halts();
        comesBack();
        comesFarther();
        comesAtTheGreatestBound();
        cannotBeReached();
        isClosedIn();
        keepsVerdicts();
        forges();
        ways();
        Due.end();
    }

    private static void certified(Beaverhall x, int machine, char letter, int a, int b) {
        Due.is("verdict of " + letter, x.verdict(machine), letter == 'h' ? 'H' : 'N');
        Due.is("decider of " + letter, x.certificate(machine, 'd'), letter);
        Due.is("a of " + letter, x.certificate(machine, 'a'), a);
        Due.is("b of " + letter, x.certificate(machine, 'b'), b);
        Due.is("passes " + letter, x.passes(machine), true);
    }

    private static void refusals() {
        Beaverhall x = new Beaverhall();
        Told.beaver2(x);
        x.machine('o', 1, 2);
        for (int machine : new int[] {Integer.MIN_VALUE, -1, 2, Integer.MAX_VALUE}) {
            Due.outside("decide", () -> x.decide(machine, 'x', 0));
            Due.outside("verdict", () -> x.verdict(machine));
            Due.outside("certificate", () -> x.certificate(machine, 'x'));
            Due.outside("forge", () -> x.forge(machine, 'x', 9999));
            Due.outside("passes", () -> x.passes(machine));
            Due.outside("ways", () -> x.ways(machine, 9));
        }
        String letters = "hctbn";
        int[] most = {5000, 500, 500, 8, 3};
        for (int i = 0; i < 5; i++) {
            char letter = letters.charAt(i);
            int over = most[i] + 1;
            for (int machine = 0; machine < 2; machine++) {
                int wrong = machine;
                Due.bad("bound 0 of " + letter, () -> x.decide(wrong, letter, 0));
                Due.bad("bound -1 of " + letter, () -> x.decide(wrong, letter, -1));
                Due.bad("bound one more of " + letter, () -> x.decide(wrong, letter, over));
                Due.bad("bound greatest of " + letter, () -> x.decide(wrong, letter, Integer.MAX_VALUE));
            }
            x.decide(0, letter, 1);
            x.decide(0, letter, most[i]);
            if (i > 1) {
                Due.unsupported("end with " + letter, () -> x.decide(1, letter, 1));
                Due.unsupported("end with " + letter, () -> x.decide(1, letter, most[letters.indexOf(letter)]));
            }
        }
        for (char letter : new char[] {'H', 'x', 0, '?', 'a'}) {
            Due.bad("letter " + letter, () -> x.decide(0, letter, 1));
            Due.bad("letter " + letter, () -> x.decide(1, letter, 1));
        }
        Due.is("without a verdict", x.verdict(1), '?');
        Due.is("passes without one", x.passes(1), false);
        Due.bad("certificate x", () -> x.certificate(1, 'x'));
        Due.missing("certificate a", () -> x.certificate(1, 'a'));
        Due.missing("certificate b", () -> x.certificate(1, 'b'));
        Due.missing("certificate d", () -> x.certificate(1, 'd'));
        Due.bad("forge d", () -> x.forge(1, 'd', 0));
        Due.bad("forge -5001", () -> x.forge(1, 'a', -5001));
        Due.bad("forge 5001", () -> x.forge(1, 'b', 5001));
        Due.missing("forge a", () -> x.forge(1, 'a', 5000));
        Due.missing("forge b", () -> x.forge(1, 'b', -5000));
    }

    private static void halts() {
        Beaverhall x = new Beaverhall();
        Told.beaver2(x);
        Due.is("h of 4", x.decide(0, 'h', 4), false);
        Due.is("nothing found, no verdict", x.verdict(0), '?');
        Due.is("h of 5", x.decide(0, 'h', 5), true);
        certified(x, 0, 'h', 5, 4);
        x.machine('o', 1, 2);
        Due.is("h behind no step", x.decide(1, 'h', 1), true);
        certified(x, 1, 'h', 0, 0);
        Told.beaver5(x);
        Due.is("h of the greatest bound", x.decide(2, 'h', 5000), false);
        Told.add(x, 'b', 4, 2, 111, 101, 100, 2, -1, 103, 113, 10);
        Due.is("h of 105", x.decide(3, 'h', 105), false);
        Due.is("h of 106", x.decide(3, 'h', 106), true);
        certified(x, 3, 'h', 106, 12);
    }

    private static void comesBack() {
        Beaverhall x = new Beaverhall();
        Told.swing(x, 'b');
        Due.is("c of 1", x.decide(0, 'c', 1), false);
        Due.is("c of 2", x.decide(0, 'c', 2), true);
        certified(x, 0, 'c', 0, 2);
        Told.swing(x, 'o');
        Due.is("c with an end", x.decide(1, 'c', 500), true);
        certified(x, 1, 'c', 0, 2);
        Told.add(x, 'b', 3, 2, 111, -1, 112, -1, -1, -1);
        x.order(2, 2, 0, 0, 'l', 1);
        x.order(2, 1, 1, 1, 'r', 2);
        Due.is("c behind some steps", x.decide(2, 'c', 500), true);
        certified(x, 2, 'c', 2, 2);
        Due.is("c of as many steps", x.decide(2, 'c', 4), true);
        Due.is("c of one less", x.decide(2, 'c', 3), false);
        Told.walkRight(x, 'b');
        Due.is("it is farther on, and not back", x.decide(3, 'c', 500), false);
    }

    private static void comesFarther() {
        Beaverhall x = new Beaverhall();
        Told.walkRight(x, 'b');
        Due.is("t to the right", x.decide(0, 't', 1), true);
        certified(x, 0, 't', 0, 1);
        Told.walkLeft(x, 'b');
        Due.is("t to the left", x.decide(1, 't', 1), true);
        certified(x, 1, 't', 0, -1);
        Told.add(x, 'b', 3, 2, 111, 112, 2, 102, 110, 110);
        Due.is("t of few", x.decide(2, 't', 2), false);
        Due.is("t of 500", x.decide(2, 't', 500), true);
        Due.is("t passes", x.passes(2), true);
        int b = x.certificate(2, 'b');
        Due.is("t of just its steps", x.decide(2, 't', Math.abs(b)), true);
        Due.is("the same one", x.certificate(2, 'b'), b);
        Due.is("t of one less", x.decide(2, 't', Math.abs(b) - 1), false);
        Told.swing(x, 'b');
        Due.is("no new cell", x.decide(3, 't', 500), false);
        Told.beaver5(x);
        Due.is("a long one", x.decide(4, 't', 500), false);
    }

    /** Found with the greatest bound, and with none that is less. */
    private static void atTheGreatestBound(Beaverhall x, int machine, char letter, int a, int b) {
        Due.is("with 499 of " + letter, x.decide(machine, letter, 499), false);
        Due.is("with 500 of " + letter, x.decide(machine, letter, 500), true);
        certified(x, machine, letter, a, b);
    }

    private static void comesAtTheGreatestBound() {
        Beaverhall x = new Beaverhall();
        Told.add(x, 'b', 5, 3, 212, 2, 110, 3, 213, 12, 113, 201, 111, 104, 202, 10, 0, 103, 10);
        Told.add(x, 'o', 5, 3, 11, 110, 2, 202, 102, 1, 14, 200, 100, 111, 212, 204, 104, 112, 13);
        Told.add(x, 'o', 5, 3, 11, 100, 0, 212, 110, 4, 114, 212, 203, 14, 203, 114, 200, 201, 113);
        Told.add(x, 'b', 4, 3, 211, 203, 201, 200, 210, 112, 203, 113, 100, 111, 210, 11);
        Told.add(x, 'b', 5, 3, 203, 200, 11, 103, 111, 110, 211, 0, 101, 102, 203, 10, 13, 211, 212);
        atTheGreatestBound(x, 0, 'c', 352, 148);
        atTheGreatestBound(x, 1, 'c', 168, 332);
        atTheGreatestBound(x, 2, 'c', 496, 4);
        atTheGreatestBound(x, 3, 't', 413, 500);
        atTheGreatestBound(x, 4, 't', 366, -500);
        Due.is("all are sound", x.isSound(), true);
    }

    private static void cannotBeReached() {
        Beaverhall x = new Beaverhall();
        Told.swing(x, 'b');
        Due.is("b of 1", x.decide(0, 'b', 1), false);
        Due.is("b of 2", x.decide(0, 'b', 2), true);
        certified(x, 0, 'b', 2, 1);
        Told.walkRight(x, 'b');
        Due.is("no order is missing", x.decide(1, 'b', 1), true);
        certified(x, 1, 'b', 0, 0);
        Told.beaver2(x);
        Due.is("it halts", x.decide(2, 'b', 8), false);
        x.machine('b', 1, 2);
        Due.is("the beginning itself", x.decide(3, 'b', 8), false);
        Told.add(x, 'b', 4, 2, 100, 110, 2, 103, 102, 113, -1, 111);
        Due.is("b of as many steps as in a way", x.decide(4, 'b', 6), false);
        Due.is("b of one more", x.decide(4, 'b', 7), true);
        certified(x, 4, 'b', 7, 6);
        Told.add(x, 'b', 5, 3, 101, 211, 214, 14, 104, -1, 204, 13, 101, 0, -1, 104, 13, 13, 212);
        Due.is("b of 7", x.decide(5, 'b', 7), false);
        Due.is("b of 8", x.decide(5, 'b', 8), true);
        certified(x, 5, 'b', 97, 7);
        Told.add(x, 'b', 2, 2, 110, 110, -1, -1);
        Due.is("no way comes to the state 1", x.decide(6, 'b', 1), true);
        certified(x, 6, 'b', 0, 0);
    }

    private static void isClosedIn() {
        Beaverhall x = new Beaverhall();
        Told.swing(x, 'b');
        Due.is("n of 1", x.decide(0, 'n', 1), true);
        certified(x, 0, 'n', 2, 2);
        Told.beaver2(x);
        Due.is("it halts", x.decide(1, 'n', 3), false);
        Told.walkRight(x, 'b');
        Due.is("n of 3", x.decide(2, 'n', 3), true);
        certified(x, 2, 'n', 4, 5);
        Told.add(x, 'b', 5, 4, 201, 113, 100, 301, 314, 200, 210, 304, 112, 313, 211, 13, 11, 203, 13, 4,
                201, 210, 114, 112);
        Due.is("just 2000 looks", x.decide(3, 'n', 2), true);
        certified(x, 3, 'n', 2000, 31);
        Told.add(x, 'b', 5, 4, 102, 2, 104, 110, 204, 1, 211, 10, 313, 112, 304, 301, 202, 14, 314, 112,
                113, 3, 213, 302);
        Due.is("2001 looks", x.decide(4, 'n', 2), false);
        Told.add(x, 'b', 5, 3, 213, 202, 212, 14, 200, 3, 4, 104, 101, 200, 11, 113, 2, 200, 202);
        Due.is("just 2000 looks of 3", x.decide(5, 'n', 3), true);
        certified(x, 5, 'n', 2000, 45);
        Told.add(x, 'b', 5, 4, 214, 314, 14, 313, 311, 202, 114, 313, 214, 3, 302, 300, 303, 111, 201, 112,
                303, 200, 101, 110);
        Due.is("2001 looks of 3", x.decide(6, 'n', 3), false);
        Due.is("all machines are sound", x.isSound(), true);
    }

    private static void keepsVerdicts() {
        Beaverhall x = new Beaverhall();
        Told.swing(x, 'b');
        x.decide(0, 'c', 10);
        certified(x, 0, 'c', 0, 2);
        Due.is("what finds nothing changes nothing", x.decide(0, 't', 10), false);
        Due.is("what finds nothing changes nothing", x.decide(0, 'h', 10), false);
        certified(x, 0, 'c', 0, 2);
        Due.bad("what is refused changes nothing", () -> x.decide(0, 'n', 4));
        certified(x, 0, 'c', 0, 2);
        Due.is("another one", x.decide(0, 'n', 1), true);
        certified(x, 0, 'n', 2, 2);
        Due.is("another one", x.decide(0, 'b', 8), true);
        certified(x, 0, 'b', 2, 1);
        Due.is("another one", x.decide(0, 'c', 2), true);
        certified(x, 0, 'c', 0, 2);
        Due.bad("certificate c", () -> x.certificate(0, 'c'));
        Due.bad("certificate of 0", () -> x.certificate(0, (char) 0));
    }

    private static void forged(Beaverhall x, int machine, int a, int b, boolean passes) {
        x.forge(machine, 'a', a);
        x.forge(machine, 'b', b);
        Due.is("passes with " + a + " and " + b, x.passes(machine), passes);
        Due.is("isSound with " + a + " and " + b, x.isSound(), true);
    }

    private static void forges() {
        Beaverhall x = new Beaverhall();
        Told.beaver2(x);
        x.decide(0, 'h', 5);
        Due.is("forge a", x.forge(0, 'a', -5000), 5);
        Due.is("forge a again", x.forge(0, 'a', 5000), -5000);
        Due.is("certificate a", x.certificate(0, 'a'), 5000);
        Due.is("forge b", x.forge(0, 'b', 5000), 4);
        Due.is("verdict stays", x.verdict(0), 'H');
        Due.bad("forge 5001", () -> x.forge(0, 'a', 5001));
        Due.bad("forge -5001", () -> x.forge(0, 'b', -5001));
        Due.bad("forge c", () -> x.forge(0, 'c', 1));
        Due.is("what is refused changes nothing", x.certificate(0, 'b'), 5000);
        int[][] wrong = {{4, 4}, {6, 4}, {5, 3}, {5, 5}, {-5, 4}, {5, -4}, {5000, 4}, {-5000, 4}};
        for (int[] pair : wrong) {
            forged(x, 0, pair[0], pair[1], false);
        }
        forged(x, 0, 5, 4, true);
        Told.swing(x, 'b');
        x.decide(1, 'c', 5);
        int[][] back = {{0, 4}, {1, 2}, {5000, 5000}, {0, 5000}};
        for (int[] pair : back) {
            forged(x, 1, pair[0], pair[1], true);
        }
        int[][] notBack = {{0, 1}, {0, 0}, {0, -2}, {-2, 2}, {-1, 3}, {4999, 4999}, {-5000, 5000}};
        for (int[] pair : notBack) {
            forged(x, 1, pair[0], pair[1], false);
        }
        Told.walkRight(x, 'b');
        x.decide(2, 't', 5);
        int[][] farther = {{0, 2}, {3, 4}, {0, 500}, {499, 500}};
        for (int[] pair : farther) {
            forged(x, 2, pair[0], pair[1], true);
        }
        int[][] notFarther = {{0, 0}, {0, -1}, {1, 1}, {2, 1}, {-1, 1}, {0, 501}, {0, 5000}, {4999, 5000}};
        for (int[] pair : notFarther) {
            forged(x, 2, pair[0], pair[1], false);
        }
        Told.swing(x, 'b');
        x.decide(3, 'b', 8);
        forged(x, 3, 2, 2, false);
        forged(x, 3, 1, 1, false);
        forged(x, 3, 2, 1, true);
        Told.walkRight(x, 'b');
        x.decide(4, 'n', 1);
        certified(x, 4, 'n', 2, 3);
        forged(x, 4, 3, 4, true);
        forged(x, 4, 4, 5, true);
        forged(x, 4, 5, 6, false);
        forged(x, 4, 2, 4, false);
        forged(x, 4, 3, 3, false);
        x.order(1, 0, 1, 0, 'l', 0);
        Due.missing("a new order takes it away", () -> x.forge(1, 'a', 0));
        Due.is("a new order takes it away", x.passes(1), false);
    }

    private static void ways() {
        Beaverhall x = new Beaverhall();
        x.machine('o', 6, 4);
        Due.is("no orders", x.ways(0, 0), 24);
        Due.is("no orders", x.ways(0, 1), 0);
        Due.is("no orders", x.ways(0, 4), 0);
        Due.bad("steps -1", () -> x.ways(0, -1));
        Due.bad("steps 5", () -> x.ways(0, 5));
        Told.swing(x, 'b');
        int[] swing = {2, 2, 0, 0, 0};
        Told.beaver2(x);
        int[] beaver = {1, 2, 2, 3, 2};
        Told.walkRight(x, 'b');
        Told.add(x, 'b', 1, 2, 110, -1);
        int[] walk = {1, 1, 1, 1, 1};
        for (int steps = 0; steps <= 4; steps++) {
            Due.is("swing", x.ways(1, steps), swing[steps]);
            Due.is("beaver", x.ways(2, steps), beaver[steps]);
            Due.is("nothing is missing", x.ways(3, steps), 0);
            Due.is("walk", x.ways(4, steps), walk[steps]);
        }
    }
}
