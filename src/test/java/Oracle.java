import java.util.ArrayList;
import java.util.HashMap;
import java.util.HashSet;
import java.util.List;
import java.util.Map;
import java.util.Set;

/**
 * The document's machines once more, as plainly as its words and without thought of time or room: every behaviour
 * behind every step is kept whole, and deciders try all pairs of numbers.
 */
final class Oracle {
    /** An order. */
    record Order(int write, int move, int next) {
    }

    /** What a machine is behind some steps. */
    record Moment(int state, int cell, Map<Integer, Integer> marks, boolean fell) {
        int sign(int where) {
            return marks.getOrDefault(where, 0);
        }
    }

    /** A proof's two numbers. */
    record Pair(int a, int b) {
    }

    final boolean hasEnd;
    final int states;
    final int signs;
    final Order[][] orders;

    Oracle(boolean hasEnd, int states, int signs) {
        this.hasEnd = hasEnd;
        this.states = states;
        this.signs = signs;
        this.orders = new Order[states][signs];
    }

    Oracle twin() {
        Oracle twin = new Oracle(hasEnd, states, signs);
        for (int i = 0; i < states; i++) {
            twin.orders[i] = orders[i].clone();
        }
        return twin;
    }

    /** Adds this machine to a hall. */
    int addTo(Beaverhall hall) {
        int number = hall.machine(hasEnd ? 'o' : 'b', states, signs);
        tellTo(hall, number);
        return number;
    }

    void tellTo(Beaverhall hall, int number) {
        for (int i = 0; i < states; i++) {
            for (int j = 0; j < signs; j++) {
                Order o = orders[i][j];
                if (o != null) {
                    hall.order(number, i, j, o.write, o.move < 0 ? 'l' : 'r', o.next);
                }
            }
        }
    }

    private Order orderFor(Moment m) {
        return m.fell ? null : orders[m.state][m.sign(m.cell)];
    }

    /** The moments behind 0, 1, 2 .. steps, as far as there are some. */
    List<Moment> moments(int steps) {
        List<Moment> all = new ArrayList<>();
        all.add(new Moment(0, 0, new HashMap<>(), false));
        while (all.size() <= steps) {
            Moment m = all.get(all.size() - 1);
            Order o = orderFor(m);
            if (o == null) {
                break;
            }
            int to = m.cell + o.move;
            boolean fell = hasEnd && to == -1;
            if (!fell && Math.abs(to) > 500) {
                break;
            }
            Map<Integer, Integer> marks = new HashMap<>(m.marks);
            if (o.write == 0) {
                marks.remove(m.cell);
            } else {
                marks.put(m.cell, o.write);
            }
            all.add(new Moment(o.next, fell ? 0 : to, marks, fell));
        }
        return all;
    }

    boolean isHalt(Moment m) {
        return orderFor(m) == null;
    }

    static long print(List<Moment> all) {
        Moment end = all.get(all.size() - 1);
        int left = 0;
        int right = 0;
        for (Moment m : all) {
            left = Math.min(left, m.cell);
            right = Math.max(right, m.cell);
        }
        long sum = 7;
        sum = 31 * sum + end.state;
        sum = 31 * sum + end.cell;
        for (int i = left; i <= right; i++) {
            sum = 31 * sum + end.sign(i);
        }
        return sum;
    }

    Pair halts(int bound) {
        List<Moment> all = moments(bound);
        Moment end = all.get(all.size() - 1);
        return isHalt(end) ? new Pair(all.size() - 1, end.marks.size()) : null;
    }

    Pair comesBack(int bound) {
        List<Moment> all = moments(bound);
        for (int a = 0; a <= bound; a++) {
            for (int b = 1; a + b <= bound; b++) {
                if (comesBackSo(all, a, b)) {
                    return new Pair(a, b);
                }
            }
        }
        return null;
    }

    static boolean comesBackSo(List<Moment> all, int a, int b) {
        if (a < 0 || b < 1 || a + b >= all.size()) {
            return false;
        }
        return all.get(a).equals(all.get(a + b));
    }

    Pair comesFarther(int bound) {
        List<Moment> all = moments(bound);
        for (int side = 1; side >= -1; side -= 2) {
            for (int b = 1; b <= bound; b++) {
                for (int a = 0; a < b; a++) {
                    if (comesFartherSo(all, a, b * side)) {
                        return new Pair(a, b * side);
                    }
                }
            }
        }
        return null;
    }

    static boolean comesFartherSo(List<Moment> all, int a, int signedB) {
        int b = Math.abs(signedB);
        int side = signedB < 0 ? -1 : 1;
        if (a < 0 || a >= b || b >= all.size()) {
            return false;
        }
        Moment then = all.get(a);
        Moment now = all.get(b);
        if (then.state != now.state || !isFirst(all, a, side) || !isFirst(all, b, side)) {
            return false;
        }
        int near = then.cell;
        for (int i = a; i <= b; i++) {
            int cell = all.get(i).cell;
            near = side > 0 ? Math.min(near, cell) : Math.max(near, cell);
        }
        int many = Math.abs(then.cell - near) + 1;
        for (int i = 0; i < many; i++) {
            if (then.sign(then.cell - side * i) != now.sign(now.cell - side * i)) {
                return false;
            }
        }
        return true;
    }

    private static boolean isFirst(List<Moment> all, int step, int side) {
        for (int i = 0; i < step; i++) {
            if (side * all.get(i).cell >= side * all.get(step).cell) {
                return false;
            }
        }
        return true;
    }

    /** A state on a cell, the known signs, with the steps back as they were done. */
    private record Back(int state, int cell, Map<Integer, Integer> known) {
    }

    private List<Back> beginnings() {
        List<Back> all = new ArrayList<>();
        for (int i = 0; i < states; i++) {
            for (int j = 0; j < signs; j++) {
                if (orders[i][j] == null) {
                    all.add(new Back(i, 0, Map.of(0, j)));
                }
            }
        }
        return all;
    }

    private List<Back> before(List<Back> level) {
        List<Back> all = new ArrayList<>();
        for (Back back : level) {
            for (int i = 0; i < states; i++) {
                for (int j = 0; j < signs; j++) {
                    Order o = orders[i][j];
                    if (o == null || o.next != back.state) {
                        continue;
                    }
                    int from = back.cell - o.move;
                    if (back.known.containsKey(from) && back.known.get(from) != o.write) {
                        continue;
                    }
                    Map<Integer, Integer> known = new HashMap<>(back.known);
                    known.put(from, j);
                    all.add(new Back(i, from, known));
                }
            }
        }
        return all;
    }

    int ways(int steps) {
        List<Back> level = beginnings();
        for (int i = 0; i < steps; i++) {
            level = before(level);
        }
        return level.size();
    }

    Pair unreachable(int bound) {
        List<Back> level = beginnings();
        int a = 0;
        for (int depth = 0; depth < bound; depth++) {
            for (Back back : level) {
                if (back.state == 0 && back.known.values().stream().allMatch(sign -> sign == 0)) {
                    return null;
                }
            }
            level = before(level);
            if (level.isEmpty()) {
                return new Pair(a, depth);
            }
            a += level.size();
        }
        return null;
    }

    private record Look(int state, int sign, String left, String right) {
    }

    Pair closedIn(int n) {
        String zeros = "0".repeat(n);
        Set<String> lefts = new HashSet<>(Set.of(zeros));
        Set<String> rights = new HashSet<>(Set.of(zeros));
        Set<Look> looks = new HashSet<>(Set.of(new Look(0, 0, zeros, zeros)));
        int before = 0;
        while (before != lefts.size() + rights.size() + looks.size()) {
            before = lefts.size() + rights.size() + looks.size();
            for (Look look : new ArrayList<>(looks)) {
                Order o = orders[look.state][look.sign];
                if (o == null) {
                    return null;
                }
                String behind = o.move > 0 ? look.left : look.right;
                String ahead = o.move > 0 ? look.right : look.left;
                (o.move > 0 ? lefts : rights).add(behind);
                String grown = (o.write + behind).substring(0, n);
                int sign = ahead.charAt(0) - '0';
                for (int far = 0; far < signs; far++) {
                    String shown = ahead.substring(1) + far;
                    if ((o.move > 0 ? rights : lefts).contains(shown)) {
                        looks.add(o.move > 0 ? new Look(o.next, sign, grown, shown)
                                : new Look(o.next, sign, shown, grown));
                    }
                }
            }
            if (looks.size() > 2000) {
                return null;
            }
        }
        return new Pair(looks.size(), lefts.size() + rights.size());
    }

    Pair decide(char letter, int bound) {
        switch (letter) {
            case 'h': return halts(bound);
            case 'c': return comesBack(bound);
            case 't': return comesFarther(bound);
            case 'b': return unreachable(bound);
            default: return closedIn(bound);
        }
    }

    boolean passes(char letter, int a, int b) {
        switch (letter) {
            case 'h': {
                if (a < 0) {
                    return false;
                }
                Pair due = halts(a);
                return due != null && due.equals(new Pair(a, b));
            }
            case 'c': return comesBackSo(moments(Math.max(0, a + b)), a, b);
            case 't': return comesFartherSo(moments(Math.abs(b)), a, b);
            case 'b': return new Pair(a, b).equals(unreachable(8));
            default: {
                for (int n = 1; n <= 3; n++) {
                    if (new Pair(a, b).equals(closedIn(n))) {
                        return true;
                    }
                }
                return false;
            }
        }
    }
}
