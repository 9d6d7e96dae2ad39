import java.math.BigInteger;

/** Promises 37 to 41: walks by fractions. */
public final class WalkTest {
    public static void main(String[] args) {
        fills();
        wrongInputs();
        walks();
        bounds();
        againstOracle();
        Due.end();
    }

    private static void fills() {
        Beaverhall x = new Beaverhall();
        for (int wrong : new int[] {Integer.MIN_VALUE, -1, 0, 10001, Integer.MAX_VALUE}) {
            Due.bad("over " + wrong, () -> x.fraction(wrong, 1));
            Due.bad("under " + wrong, () -> x.fraction(1, wrong));
        }
        for (int i = 1; i <= 10; i++) {
            Due.is("fraction", x.fraction(i == 1 ? 1 : 10000, i == 2 ? 1 : 10000), i);
        }
        Due.full("an 11th", () -> x.fraction(1, 1));
        Due.bad("a wrong 11th", () -> x.fraction(0, 1));
        Due.is("unwalk", x.unwalk(), 10);
        Due.is("unwalk again", x.unwalk(), 0);
        Due.is("fraction anew", x.fraction(1, 1), 1);
    }

    private static void wrongInputs() {
        Beaverhall x = new Beaverhall();
        for (long wrong : new long[] {Long.MIN_VALUE, -1, 0, 1000000001L, (1L << 32) + 1, Long.MAX_VALUE}) {
            Due.bad("number " + wrong, () -> x.walk(wrong, 1));
        }
        Due.bad("steps -1", () -> x.walk(1, -1));
        Due.bad("steps 5001", () -> x.walk(1, 5001));
        Due.is("walked at first", x.walked(), 0);
        Due.is("hasWalked at first", x.hasWalked(), false);
        Due.is("without fractions", x.walk(1000000000L, 5000), 1000000000L);
        Due.is("it has halted", x.hasWalked(), true);
        Due.is("behind no steps", x.walked(), 0);
    }

    /** Conway's fractions for primes, as far as there is room for their steps. */
    private static void walks() {
        Beaverhall x = new Beaverhall();
        x.fraction(3, 2);
        Due.is("walk", x.walk(8, 3), 27);
        Due.is("walked", x.walked(), 3);
        Due.is("halted behind as many steps as told", x.hasWalked(), true);
        Due.is("walk", x.walk(8, 2), 18);
        Due.is("not halted", x.hasWalked(), false);
        Due.is("no step", x.walk(8, 0), 8);
        Due.is("not halted", x.hasWalked(), false);
        Due.is("no step", x.walk(9, 0), 9);
        Due.is("halted", x.hasWalked(), true);
        x.fraction(1, 3);
        Due.is("the first one with which it is whole", x.walk(6, 1), 9);
        Due.is("then the other one", x.walk(6, 100), 1);
        Due.is("walked", x.walked(), 3);
        Due.bad("refused", () -> x.walk(0, 1));
        Due.is("what is refused changes nothing", x.walked(), 3);
        Due.is("unwalk", x.unwalk(), 2);
        Due.is("the last walk stays", x.walked(), 3);
        Due.is("the last walk stays", x.hasWalked(), true);
        x.fraction(6, 4);
        Due.is("a product is whole though the number is not divided", x.walk(2, 1), 3);
        Due.is("then it is not", x.walk(2, 5), 3);
        Due.is("walked", x.walked(), 1);
        x.unwalk();
        x.fraction(7, 7);
        Due.is("for ever", x.walk(5, 5000), 5);
        Due.is("for ever", x.walked(), 5000);
        Due.is("for ever", x.hasWalked(), false);
    }

    private static void bounds() {
        Beaverhall x = new Beaverhall();
        x.fraction(10, 1);
        Due.is("just at the bound", x.walk(1, 5000), 1000000000000000L);
        Due.is("walked", x.walked(), 15);
        Due.is("not halted", x.hasWalked(), false);
        Due.is("a product that would be above", x.walk(1000000000L, 5000), 1000000000000000L);
        Due.is("as many steps as told, a step that would be above", x.walk(1000000000L, 6), 1000000000000000L);
        Due.is("it is at its bound", x.hasWalked(), false);
        x.unwalk();
        x.fraction(10000, 1);
        Due.is("a product too large for a long", x.walk(1000000000L, 5000), 10000000000000L);
        Due.is("walked", x.walked(), 1);
        Due.is("by smaller steps", x.walk(99999999L, 5000), 999999990000L);
        x.fraction(1, 10);
        Due.is("the first one counts, though the other would go on", x.walk(1000000000L, 9), 10000000000000L);
        Due.is("not halted", x.hasWalked(), false);
        x.unwalk();
        x.fraction(9999, 10000);
        Due.is("down", x.walk(1000000000L, 5000), 1000000000L / 10000 * 9999 / 10000 * 9999);
        Due.is("walked", x.walked(), 2);
    }

    private static void againstOracle() {
        long seed = 41;
        for (int i = 0; i < 3000; i++) {
            Beaverhall x = new Beaverhall();
            int size = 1 + i % 10;
            int[][] fractions = new int[size][2];
            for (int[] each : fractions) {
                for (int k = 0; k < 2; k++) {
                    seed = seed * 6364136223846793005L + 1442695040888963407L;
                    int most = i % 3 == 0 ? 10000 : i % 3 == 1 ? 60 : 12;
                    each[k] = 1 + (int) ((seed >>> 33) % most);
                }
                x.fraction(each[0], each[1]);
            }
            seed = seed * 6364136223846793005L + 1442695040888963407L;
            long number = 1 + (seed >>> 33) % (i % 2 == 0 ? 1000 : 1000000000);
            int steps = i % 7 * 9;
            oracle(x, fractions, number, steps);
        }
    }

    private static void oracle(Beaverhall x, int[][] fractions, long number, int steps) {
        BigInteger most = BigInteger.valueOf(1000000000000000L);
        BigInteger now = BigInteger.valueOf(number);
        int done = 0;
        boolean ended = false;
        while (true) {
            BigInteger next = null;
            for (int[] each : fractions) {
                BigInteger[] parts = now.multiply(BigInteger.valueOf(each[0]))
                        .divideAndRemainder(BigInteger.valueOf(each[1]));
                if (next == null && parts[1].signum() == 0) {
                    next = parts[0];
                }
            }
            ended = next == null;
            if (ended || done == steps || next.compareTo(most) > 0) {
                break;
            }
            now = next;
            done++;
        }
        Due.is("walk", x.walk(number, steps), now.longValueExact());
        Due.is("walked", x.walked(), done);
        Due.is("hasWalked", x.hasWalked(), ended);
    }
}
