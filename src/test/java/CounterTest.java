/** Promises 27 to 30: the counter machine. */
public final class CounterTest {
    public static void main(String[] args) {
        adds();
        runs();
        Due.end();
    }

    private static void adds() {
        Beaverhall x = new Beaverhall();
        Due.is("uncount of none", x.uncount(), 0);
        Due.bad("count * ", () -> x.count('*', 0, 0, 0));
        Due.bad("count register -1", () -> x.count('+', -1, 0, 0));
        Due.bad("count register 4", () -> x.count('+', 4, 0, 0));
        Due.bad("count place -1", () -> x.count('+', 0, -1, 0));
        Due.bad("count place 13", () -> x.count('+', 0, 13, 0));
        Due.bad("count other -1", () -> x.count('-', 0, 0, -1));
        Due.bad("count other 13", () -> x.count('-', 0, 0, 13));
        Due.is("count + with an other of no meaning", x.count('+', 0, 1, 13), 1);
        Due.is("count + with an other of no meaning", x.count('+', 3, 12, Integer.MIN_VALUE), 2);
        for (int i = 3; i <= 12; i++) {
            Due.is("count", x.count('-', 3, 12, 12), i);
        }
        Due.full("count of a 13th", () -> x.count('+', 0, 0, 0));
        Due.bad("count of a wrong 13th", () -> x.count('x', 0, 0, 0));
        Due.is("run of 12", x.runCounters(0, 0, 10), 2);
        Due.is("uncount", x.uncount(), 12);
        Due.is("register stays behind uncount", x.register(0), 1);
        Due.is("register stays behind uncount", x.register(3), 1);
        Due.is("uncount again", x.uncount(), 0);
        Due.is("run of none", x.runCounters(7, 8, 10), 0);
        Due.is("register 0", x.register(0), 7);
        Due.is("register 1", x.register(1), 8);
        Due.is("register 3", x.register(3), 0);
    }

    private static void runs() {
        Beaverhall x = new Beaverhall();
        for (int i = 0; i < 4; i++) {
            Due.is("register at first", x.register(i), 0);
        }
        Due.outside("register -1", () -> x.register(-1));
        Due.outside("register 4", () -> x.register(4));
        x.count('-', 1, 1, 2);
        x.count('+', 0, 0, 0);
        Due.is("3 + 4", x.runCounters(3, 4, 5000), 9);
        Due.is("sum", x.register(0), 7);
        Due.is("rest", x.register(1), 0);
        Due.is("3 + 4 in 3 steps", x.runCounters(3, 4, 3), 3);
        Due.is("sum behind 3 steps", x.register(0), 4);
        Due.is("rest behind 3 steps", x.register(1), 2);
        Due.bad("first -1", () -> x.runCounters(-1, 0, 0));
        Due.bad("first 1001", () -> x.runCounters(1001, 0, 0));
        Due.bad("second -1", () -> x.runCounters(0, -1, 0));
        Due.bad("second 1001", () -> x.runCounters(0, 1001, 0));
        Due.bad("steps -1", () -> x.runCounters(0, 0, -1));
        Due.bad("steps 5001", () -> x.runCounters(0, 0, 5001));
        Due.is("a refused run changes nothing", x.register(0), 4);
        Due.is("greatest", x.runCounters(1000, 1000, 5000), 2001);
        Due.is("greatest sum", x.register(0), 2000);
        Due.is("no step", x.runCounters(1000, 1000, 0), 0);
        Due.is("no step", x.register(1), 1000);
        x.uncount();
        x.count('-', 2, 5, 0);
        Due.is("a register that is 0 goes to the other place, and this is a step", x.runCounters(0, 0, 5000), 5000);
        x.uncount();
        x.count('+', 2, 0, 0);
        Due.is("up without end", x.runCounters(0, 0, 5000), 5000);
        Due.is("up without end", x.register(2), 5000);
        Due.is("registers not told are 0 anew", x.runCounters(0, 0, 1), 1);
        Due.is("registers not told are 0 anew", x.register(2), 1);
    }
}
