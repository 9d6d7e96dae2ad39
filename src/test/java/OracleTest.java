import java.util.List;

/** Promises 6 to 18, 42 and 44 against the oracle, on many machines that are made by numbers. */
public final class OracleTest {
    private static final String LETTERS = "hctbn";
    private static long seed = 20261119;
    private static final int[] found = new int[LETTERS.length()];
    private static int forgedPasses = 0;

    private static int next(int below) {
        seed = seed * 6364136223846793005L + 1442695040888963407L;
        return (int) ((seed >>> 33) % below);
    }

    public static void main(String[] args) {
        for (int i = 0; i < 6000; i++) {
            Oracle oracle = made(i);
            Beaverhall hall = new Beaverhall();
            int number = oracle.addTo(hall);
            if (number == 0) {
                runs(oracle, hall);
                decisions(oracle, hall);
            }
        }
        for (int i = 0; i < found.length; i++) {
            Due.is("enough found by " + LETTERS.charAt(i), found[i] > 100, true);
        }
        Due.is("enough forged ones that pass", forgedPasses > 100, true);
        Due.end();
    }

    private static Oracle made(int i) {
        int states = i % 3 == 0 ? 2 : 1 + next(6);
        int signs = i % 3 == 0 ? 2 : 2 + next(3);
        Oracle oracle = new Oracle(i % 5 == 4, states, signs);
        int missing = next(4);
        for (int state = 0; state < states; state++) {
            for (int sign = 0; sign < signs; sign++) {
                if (missing == 3 ? next(8) > 0 : next(states * signs) >= missing) {
                    oracle.orders[state][sign] = new Oracle.Order(next(signs), 2 * next(2) - 1, next(states));
                }
            }
        }
        return oracle;
    }

    private static void runs(Oracle oracle, Beaverhall hall) {
        int steps = next(3) == 0 ? next(20) : next(300);
        List<Oracle.Moment> all = oracle.moments(steps);
        Oracle.Moment end = all.get(all.size() - 1);
        Due.is("run", hall.run(0, steps), all.size() - 1);
        Due.is("hasHalted", hall.hasHalted(0), oracle.isHalt(end));
        Due.is("ran s", hall.ran(0, 's'), end.state());
        Due.is("ran c", hall.ran(0, 'c'), end.cell());
        Due.is("ran m", hall.ran(0, 'm'), end.marks().size());
        int left = all.stream().mapToInt(Oracle.Moment::cell).min().orElse(0);
        int right = all.stream().mapToInt(Oracle.Moment::cell).max().orElse(0);
        Due.is("ran l", hall.ran(0, 'l'), left);
        Due.is("ran r", hall.ran(0, 'r'), right);
        Due.is("ran p", hall.ran(0, 'p'), right - left + 1);
        int rows = 1;
        for (int cell = left - 1; cell <= right + 1; cell++) {
            Due.is("signAt", hall.signAt(0, cell), end.sign(cell));
            rows += cell >= left && cell < right && end.sign(cell) != end.sign(cell + 1) ? 1 : 0;
        }
        Due.is("runsOf", hall.runsOf(0), rows);
        Due.is("print", hall.print(0), Oracle.print(all));
        Due.is("printByRuns", hall.printByRuns(0, steps), Oracle.print(all));
        int other = next(300);
        Due.is("printByRuns of other steps", hall.printByRuns(0, other), Oracle.print(oracle.moments(other)));
        for (int i = 0; i <= 4; i++) {
            Due.is("ways", hall.ways(0, i), oracle.ways(i));
        }
        Due.is("the last run stays", hall.print(0), Oracle.print(all));
    }

    private static void decisions(Oracle oracle, Beaverhall hall) {
        Oracle.Pair before = null;
        char by = '?';
        for (int i = 0; i < LETTERS.length(); i++) {
            char letter = LETTERS.charAt(i);
            if (oracle.hasEnd && i > 1) {
                Due.unsupported("decide " + letter, () -> hall.decide(0, letter, 1));
                continue;
            }
            int bound = letter == 'b' ? 1 + next(8) : letter == 'n' ? 1 + next(3) : 1 + next(next(2) == 0 ? 60 : 12);
            if (letter == 'b' && oracle.ways(4) > 500) {
                continue;
            }
            Oracle.Pair due = oracle.decide(letter, bound);
            Due.is("decide " + letter + " " + bound, hall.decide(0, letter, bound), due != null);
            if (due != null) {
                found[i]++;
                before = due;
                by = letter;
            }
            Due.is("verdict", hall.verdict(0), by == '?' ? '?' : by == 'h' ? 'H' : 'N');
            Due.is("passes", hall.passes(0), before != null);
            if (before != null) {
                Due.is("certificate d", hall.certificate(0, 'd'), by);
                Due.is("certificate a by " + by, hall.certificate(0, 'a'), before.a());
                Due.is("certificate b by " + by, hall.certificate(0, 'b'), before.b());
            }
            if (due != null) {
                forgeries(oracle, hall, letter, due);
            }
        }
        Due.is("isSound", hall.isSound(), true);
    }

    private static void forgeries(Oracle oracle, Beaverhall hall, char letter, Oracle.Pair due) {
        for (int i = 0; i < 6; i++) {
            int a = due.a() + (i % 2 == 0 ? 0 : next(9) - 4);
            int b = i == 0 ? -due.b() : i == 1 ? due.b() : due.b() * (1 + next(3)) + (next(2) == 0 ? 0 : next(9) - 4);
            hall.forge(0, 'a', a);
            hall.forge(0, 'b', b);
            boolean passes = oracle.passes(letter, a, b);
            Due.is("passes " + letter + " " + a + " " + b, hall.passes(0), passes);
            Due.is("isSound with what is forged", hall.isSound(), true);
            forgedPasses += passes && !(a == due.a() && b == due.b()) ? 1 : 0;
        }
        hall.forge(0, 'a', due.a());
        hall.forge(0, 'b', due.b());
    }
}
