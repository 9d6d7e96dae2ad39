import java.util.ArrayList;
import java.util.List;

/** Promises 19 to 21: listed, champion and haltingShare, against a list made by the oracle. */
public final class ListingTest {
    /** A listed machine: what its run came to. */
    private record Listed(Oracle machine, char end, int steps, int marks) {
    }

    public static void main(String[] args) {
        wrongInputs();
        knownNumbers();
        againstOracle(1, 1);
        againstOracle(1, 100);
        for (int steps = 1; steps <= 12; steps++) {
            againstOracle(2, steps);
        }
        againstOracle(2, 40);
        againstOracle(2, 100);
        listsAnew();
        champions();
        Due.end();
    }

    private static void wrongInputs() {
        Beaverhall x = new Beaverhall();
        for (int states = -1; states <= 4; states += states == 0 ? 3 : 1) {
            int wrong = states;
            Due.bad("listed states " + states, () -> x.listed(wrong, 1, 'h'));
            Due.bad("champion states " + states, () -> x.champion(wrong, 1));
            Due.bad("haltingShare states " + states, () -> x.haltingShare(wrong, 1));
        }
        for (int steps : new int[] {Integer.MIN_VALUE, -1, 0, 101, Integer.MAX_VALUE}) {
            Due.bad("listed steps " + steps, () -> x.listed(1, steps, 'h'));
            Due.bad("champion steps " + steps, () -> x.champion(1, steps));
            Due.bad("haltingShare steps " + steps, () -> x.haltingShare(1, steps));
        }
        for (char what : new char[] {'H', 'x', 0, 'c', 't'}) {
            Due.bad("listed what " + what, () -> x.listed(1, 1, what));
        }
    }

    private static void knownNumbers() {
        Beaverhall x = new Beaverhall();
        Due.is("h of 1 state", x.listed(1, 1, 'h'), 1);
        Due.is("n of 1 state", x.listed(1, 1, 'n'), 2);
        Due.is("o of 1 state", x.listed(1, 1, 'o'), 0);
        Due.is("s of 1 state", x.listed(1, 100, 's'), 0);
        Due.is("m of 1 state", x.listed(1, 100, 'm'), 0);
        Due.is("share of 1 state", (double) x.haltingShare(1, 100), (double) (1f / 3f));
        Due.is("s of 2 states", x.listed(2, 100, 's'), 5);
        Due.is("m of 2 states", x.listed(2, 100, 'm'), 4);
        Due.is("o of 2 states", x.listed(2, 100, 'o'), 0);
        Due.is("o of 2 states and 1 step", x.listed(2, 1, 'o') > 0, true);
    }

    private static void againstOracle(int states, int steps) {
        List<Listed> all = new ArrayList<>();
        list(new Oracle(false, states, 2), steps, all);
        int halting = 0;
        int endless = 0;
        int mostSteps = -1;
        int mostMarks = -1;
        Oracle best = null;
        for (Listed each : all) {
            halting += each.end == 'h' ? 1 : 0;
            endless += each.end == 'n' ? 1 : 0;
            if (each.end == 'h') {
                best = each.steps > mostSteps ? each.machine : best;
                mostSteps = Math.max(mostSteps, each.steps);
                mostMarks = Math.max(mostMarks, each.marks);
            }
        }
        String name = " of " + states + " states and " + steps + " steps";
        Beaverhall x = new Beaverhall();
        Due.is("h" + name, x.listed(states, steps, 'h'), halting);
        Due.is("n" + name, x.listed(states, steps, 'n'), endless);
        Due.is("o" + name, x.listed(states, steps, 'o'), all.size() - halting - endless);
        Due.is("s" + name, x.listed(states, steps, 's'), mostSteps);
        Due.is("m" + name, x.listed(states, steps, 'm'), mostMarks);
        Due.is("share" + name, (double) x.haltingShare(states, steps), (double) ((float) halting / (float) all.size()));
        Due.is("champion" + name, x.champion(states, steps), 0);
        Beaverhall y = new Beaverhall();
        best.addTo(y);
        Due.is("the champion's orders" + name, x.checksum(), y.checksum());
    }

    private static void list(Oracle machine, int steps, List<Listed> all) {
        List<Oracle.Moment> moments = machine.moments(steps);
        Oracle.Moment end = moments.get(moments.size() - 1);
        if (!machine.isHalt(end)) {
            boolean never = machine.comesBack(steps) != null || machine.comesFarther(steps) != null;
            all.add(new Listed(machine, never ? 'n' : 'o', 0, 0));
            return;
        }
        all.add(new Listed(machine, 'h', moments.size() - 1, end.marks().size()));
        int missing = 0;
        int top = end.state();
        for (int i = 0; i < machine.states; i++) {
            for (int j = 0; j < 2; j++) {
                Oracle.Order o = machine.orders[i][j];
                missing += o == null ? 1 : 0;
                top = o == null ? top : Math.max(top, Math.max(i, o.next()));
            }
        }
        if (missing < 2) {
            return;
        }
        boolean isBare = missing == 2 * machine.states;
        for (int write = 0; write < 2; write++) {
            for (int move = isBare ? 1 : -1; move <= 1; move += 2) {
                for (int next = 0; next <= top + 1 && next < machine.states; next++) {
                    Oracle child = machine.twin();
                    child.orders[end.state()][end.sign(end.cell())] = new Oracle.Order(write, move, next);
                    list(child, steps, all);
                }
            }
        }
    }

    /** A hall that has listed others answers as a new one does. */
    private static void listsAnew() {
        Beaverhall old = new Beaverhall();
        int[][] lists = {{2, 3}, {2, 2}, {1, 2}, {2, 50}, {1, 50}, {1, 1}, {2, 1}, {2, 3}};
        for (int[] each : lists) {
            for (char what : new char[] {'o', 'm', 's', 'n', 'h'}) {
                Due.is("listed " + each[0] + " " + each[1] + " " + what, old.listed(each[0], each[1], what),
                        new Beaverhall().listed(each[0], each[1], what));
            }
        }
        for (int[] each : lists) {
            Due.is("haltingShare " + each[0] + " " + each[1], (double) old.haltingShare(each[0], each[1]),
                    (double) new Beaverhall().haltingShare(each[0], each[1]));
        }
        Due.is("haltingShare ahead of all else", (double) new Beaverhall().haltingShare(2, 100),
                (double) (19f / 61f));
        Beaverhall fresh = new Beaverhall();
        fresh.champion(2, 3);
        Beaverhall other = new Beaverhall();
        other.listed(2, 50, 'h');
        other.champion(2, 3);
        Due.is("champion behind another list", other.checksum(), fresh.checksum());
    }

    private static void champions() {
        Beaverhall x = new Beaverhall();
        Due.is("champion", x.champion(2, 100), 0);
        Due.is("it is as other machines are", x.verdict(0), '?');
        Due.missing("it was not run", () -> x.hasHalted(0));
        Due.is("its run", x.run(0, 100), 5);
        Due.is("its halt", x.hasHalted(0), true);
        Due.is("its states", x.order(0, 1, 0, 1, 'r', 0) >= 3, true);
        Due.is("champion anew", x.champion(2, 100), 1);
        Due.is("run of the one that was not changed", x.run(1, 100), 5);
        Due.is("champion of 1 state", x.champion(1, 5), 2);
        Due.is("it has no orders", x.ways(2, 0), 2);
        Due.bad("it has one state", () -> x.order(2, 1, 0, 0, 'r', 0));
        for (int i = 3; i < 16; i++) {
            Due.is("champion " + i, x.champion(2, i), i);
        }
        Due.full("champion of a full hall", () -> x.champion(2, 5));
        Due.bad("wrong champion of a full hall", () -> x.champion(2, 0));
        Due.is("listed in a full hall", x.listed(2, 5, 's'), 5);
    }
}
