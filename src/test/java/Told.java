/** Machines for the tests, told as rows of numbers. */
final class Told {
    private Told() {
    }

    /** Each number is an order, by states, then signs: 100 times the sign to write, 10 for the right, the next state. */
    static int add(Beaverhall hall, char tape, int states, int signs, int... orders) {
        int machine = hall.machine(tape, states, signs);
        for (int i = 0; i < orders.length; i++) {
            int order = orders[i];
            if (order >= 0) {
                hall.order(machine, i / signs, i % signs, order / 100, order / 10 % 10 == 1 ? 'r' : 'l', order % 10);
            }
        }
        return machine;
    }

    /** The busy beaver of 2 states: it halts behind 5 steps with 4 marks; its halt is an order that is not told. */
    static int beaver2(Beaverhall hall) {
        return add(hall, 'b', 2, 2, 111, 101, 100, -1);
    }

    /** A machine of 5 states that runs on for a very long time. */
    static int beaver5(Beaverhall hall) {
        return add(hall, 'b', 5, 2, 111, 102, 112, 111, 113, 4, 100, 103, -1, 0);
    }

    static int walkRight(Beaverhall hall, char tape) {
        return add(hall, tape, 1, 2, 110, 110);
    }

    static int walkLeft(Beaverhall hall, char tape) {
        return add(hall, tape, 1, 2, 100, 100);
    }

    /** Goes to and fro between two cells for ever. */
    static int swing(Beaverhall hall, char tape) {
        return add(hall, tape, 2, 2, 11, -1, 0, -1);
    }
}
