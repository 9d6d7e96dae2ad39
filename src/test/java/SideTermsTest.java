/** The terms of the listing, of counters, tags and walks, at the bounds that they name. */
public final class SideTermsTest {
    private static final int TERMS = Document.TERMS;

    public static void main(String[] args) {
        listsOneState();
        listsOneStep();
        listsTwoSteps();
        listsInOrder();
        countsOpenOnes();
        countersUpAndDown();
        countersGoOn();
        countersHalt();
        tagShortens();
        tagHalts();
        tagBounds();
        walksByTheFirst();
        walksToTheBound();
        walkHalts();
        Due.end();
    }

    private static void listed(Beaverhall x, int states, int steps, int h, int n, int o, int s, int m) {
        String name = "listed " + states + " " + steps + " ";
        Due.is(name + 'h', x.listed(states, steps, 'h'), h);
        Due.is(name + 'n', x.listed(states, steps, 'n'), n);
        Due.is(name + 'o', x.listed(states, steps, 'o'), o);
        Due.is(name + 's', x.listed(states, steps, 's'), s);
        Due.is(name + 'm', x.listed(states, steps, 'm'), m);
        Due.is(name + "share", (double) x.haltingShare(states, steps), (double) ((float) h / (float) (h + n + o)));
    }

    private static void listsOneState() {
        Document.says(TERMS, "from the machine without orders on, each is run by at most as many steps as told, 1 to 100");
        Document.says(TERMS, "the very first order moves to the right alone.");
        Beaverhall x = new Beaverhall();
        // The one without orders halts; those that write 0 or 1 and go to the right never do.
        listed(x, 1, 1, 1, 2, 0, 0, 0);
        listed(x, 1, 2, 1, 2, 0, 0, 0);
        listed(x, 1, 100, 1, 2, 0, 0, 0);
        Due.is("champion", x.champion(1, 100), 0);
        Due.is("it has no orders", x.checksum(), 7 * 31 * 31);
    }

    private static void listsOneStep() {
        Document.says(TERMS, "if it halts, it is counted as halting with its steps and marks; then, if some other order "
                + "is not told either, it has as children, one after the other, those in which the order that was "
                + "missing is told");
        Beaverhall x = new Beaverhall();
        // Without orders: halts. To the state 0: two that never do. To the state 1: two that halt behind one step,
        // each with 2 signs, 2 moves and 2 states as children, none of which has halted behind it.
        listed(x, 2, 1, 3, 2, 16, 1, 1);
        Due.is("champion", x.champion(2, 1), 0);
        Due.is("it writes 0, as the first one does", x.checksum(), ((7 * 31 + 1 + 4 + 40) * 31L) * 31 * 31);
    }

    private static void listsTwoSteps() {
        Document.says(TERMS, "All machines without ends of 1 or 2 states, as told, and 2 signs are listed as a tree");
        Beaverhall x = new Beaverhall();
        listed(x, 2, 100, 19, 42, 0, 5, 4);
        Due.is("the most steps of 2", x.listed(2, 2, 's'), 2);
        Due.is("the most marks of 2", x.listed(2, 2, 'm'), 2);
        Due.is("the most steps of 4", x.listed(2, 4, 's'), 4);
        Due.is("the most steps of 5", x.listed(2, 5, 's'), 5);
        Due.is("the most steps of 99", x.listed(2, 99, 's'), 5);
    }

    private static void listsInOrder() {
        Document.says(TERMS, "by signs, then moves, left ahead of right, then states, up to those that some told order has "
                + "as its own or next one, the state 0 and the one in which it halted too, and one more, if there is "
                + "one");
        Beaverhall x = new Beaverhall();
        Due.is("champion of 2", x.champion(2, 2), 0);
        // It halts behind 2 steps only if it comes back to a 1, which it wrote: 1 right, then 0 left to the state 0.
        Due.is("its orders", x.checksum(), (((7 * 31 + 1 + 1 + 4 + 40) * 31L) * 31 + 1) * 31);
        Due.is("its steps", x.run(0, 100), 2);
        Due.is("its marks", x.ran(0, 'm'), 1);
    }

    private static void countsOpenOnes() {
        Document.says(TERMS, "One that does not halt so is counted as never halting, if 'c' or 't' with the same bound "
                + "finds it, otherwise as left open.");
        Beaverhall x = new Beaverhall();
        int all = 61;
        for (int steps = 1; steps <= 100; steps++) {
            int sum = x.listed(2, steps, 'h') + x.listed(2, steps, 'n') + x.listed(2, steps, 'o');
            Due.is("all counted of " + steps + " are not more than of 100", sum <= all, true);
            Due.is("left open of " + steps, x.listed(2, steps, 'o') > 0, steps < 8);
        }
    }

    private static void countersUpAndDown() {
        Document.says(TERMS, "A counter machine has registers 0 to 3, and at most 12 orders, numbered from 0, from which "
                + "it begins");
        Beaverhall x = new Beaverhall();
        for (int i = 0; i < 12; i++) {
            Due.is("orders", x.count('+', i % 4, i + 1, 0), i + 1);
        }
        Due.full("a 13th", () -> x.count('+', 0, 0, 0));
        Due.is("from the order 0 to the 12th", x.runCounters(0, 0, 5000), 12);
        for (int i = 0; i < 4; i++) {
            Due.is("register", x.register(i), 3);
        }
        Due.outside("register 4", () -> x.register(4));
        Due.is("one step is that of the order 0", x.runCounters(0, 0, 1), 1);
        Due.is("register 0", x.register(0), 1);
        Due.is("register 1", x.register(1), 0);
    }

    private static void countersGoOn() {
        Document.says(TERMS, "'+' a register becomes 1 more, and it goes on at a place; '-' it becomes 1 less, and it "
                + "goes on at a place, or, if it is 0, it stays so, and it goes on at another place.");
        Beaverhall x = new Beaverhall();
        // 0 takes from the register 0 and goes on at 1; if it is 0, at 3. 1 and 2 add to 1 and 2. 3 adds to 3.
        x.count('-', 0, 1, 3);
        x.count('+', 1, 2, 3);
        x.count('+', 2, 0, 3);
        x.count('+', 3, 12, 0);
        Due.is("a register that is 0", x.runCounters(0, 7, 5000), 2);
        Due.is("it stays so", x.register(0), 0);
        Due.is("told", x.register(1), 7);
        Due.is("at the other place", x.register(3), 1);
        Due.is("a register that is 1", x.runCounters(1, 0, 1), 1);
        Due.is("it becomes 0", x.register(0), 0);
        Due.is("at the place", x.runCounters(1, 0, 2), 2);
        Due.is("at the place", x.register(1), 1);
        Due.is("at the place", x.register(3), 0);
        Due.is("1000 times", x.runCounters(1000, 1000, 5000), 3002);
        Due.is("1000 less", x.register(0), 0);
        Due.is("1000 more", x.register(1), 2000);
        Due.is("1000 more than 0", x.register(2), 1000);
    }

    private static void countersHalt() {
        Document.says(TERMS, "At a place that is not there it halts; this is no step.");
        Beaverhall x = new Beaverhall();
        Due.is("no order at all", x.runCounters(3, 4, 5000), 0);
        Due.is("register 0", x.register(0), 3);
        Due.is("register 1", x.register(1), 4);
        x.count('+', 0, 1, 0);
        Due.is("the place behind the last one", x.runCounters(0, 0, 5000), 1);
        x.count('-', 1, 12, 12);
        Due.is("the last place that can be told", x.runCounters(0, 1, 5000), 2);
        Due.is("as other place", x.runCounters(0, 0, 5000), 2);
        for (int i = 2; i < 12; i++) {
            x.count('+', 2, 11, 0);
        }
        Due.is("12 is not there with 12 orders", x.runCounters(0, 0, 5000), 2);
        Due.is("nothing more was done", x.register(2), 0);
        x.uncount();
        x.count('+', 3, 2, 0);
        x.count('+', 3, 3, 0);
        x.count('+', 3, 1, 0);
        Due.is("a place that is told later on", x.runCounters(0, 0, 5000), 3);
    }

    private static void tagRows(Beaverhall x, String... rows) {
        for (String row : rows) {
            for (int i = 2; i < row.length(); i++) {
                x.tagRow(row.charAt(0), row.charAt(i));
            }
        }
    }

    private static void tagStart(Beaverhall x, String letters) {
        for (int i = 0; i < letters.length(); i++) {
            x.tagStart(letters.charAt(i));
        }
    }

    private static void tagged(Beaverhall x, int number, int steps, int done, String letters) {
        String name = "tag " + number + " " + steps;
        Due.is(name, x.tag(number, steps), done);
        Due.is(name + ": length", x.tagLength(), letters.length());
        for (int i = 0; i < letters.length(); i++) {
            Due.is(name + ": letter " + i, x.tagLetter(i), letters.charAt(i));
        }
        Due.missing(name + ": no more letters", () -> x.tagLetter(letters.length()));
    }

    private static void tagShortens() {
        Document.says(TERMS, "A tag row of letters a to d, at most 400, is shortened in front by the number 2 or 3 in each "
                + "step, and the letter that was first puts its row, of at most 6 letters, behind");
        Beaverhall x = new Beaverhall();
        tagRows(x, "a:", "b:d", "c:abcdab", "d:dd");
        tagStart(x, "cabd");
        tagged(x, 2, 0, 0, "cabd");
        tagged(x, 2, 1, 1, "bdabcdab");
        tagged(x, 2, 2, 2, "abcdabd");
        tagged(x, 2, 3, 3, "cdabd");
        tagged(x, 3, 1, 1, "dabcdab");
        tagged(x, 3, 2, 2, "cdabdd");
        Due.is("each run begins at the beginning", x.tag(3, 0), 0);
        Due.is("each run begins at the beginning", x.tagLength(), 4);
    }

    private static void tagHalts() {
        Document.says(TERMS, "it halts if it is shorter than that number.");
        Beaverhall x = new Beaverhall();
        tagged(x, 2, 2000, 0, "");
        tagged(x, 3, 2000, 0, "");
        tagStart(x, "a");
        tagged(x, 2, 2000, 0, "a");
        tagStart(x, "b");
        tagged(x, 3, 2000, 0, "ab");
        // Just as long as the number: a step, though its letter has no row.
        tagged(x, 2, 2000, 1, "");
        tagStart(x, "c");
        tagged(x, 3, 2000, 1, "");
        tagged(x, 2, 2000, 1, "c");
        tagRows(x, "a:d");
        tagged(x, 3, 2000, 1, "d");
        tagged(x, 2, 2000, 2, "");
    }

    private static void tagBounds() {
        Document.says(TERMS, "A tag row of letters a to d, at most 400");
        Beaverhall x = new Beaverhall();
        // One letter more each step: 400 behind 360 steps; a 401st is not put.
        tagRows(x, "a:aaa");
        tagStart(x, "a".repeat(40));
        tagged(x, 2, 359, 359, "a".repeat(399));
        tagged(x, 2, 360, 360, "a".repeat(400));
        tagged(x, 2, 361, 360, "a".repeat(400));
        tagged(x, 2, 2000, 360, "a".repeat(400));
        // As many letters as are taken away: a row of 40 for ever.
        tagged(x, 3, 2000, 2000, "a".repeat(40));
        // Four letters more each step: from 37 to 397, ahead of 401.
        x.untag();
        tagRows(x, "a:aaaaaa");
        tagStart(x, "a".repeat(37));
        tagged(x, 2, 2000, 90, "a".repeat(397));
        // Three letters more each step: from 37 to 400 just.
        tagged(x, 3, 2000, 121, "a".repeat(400));
    }

    private static void walked(Beaverhall x, long number, int steps, long due, int done, boolean halted) {
        String name = "walk " + number + " " + steps;
        Due.is(name, x.walk(number, steps), due);
        Due.is(name + ": walked", x.walked(), done);
        Due.is(name + ": hasWalked", x.hasWalked(), halted);
    }

    private static void walksByTheFirst() {
        Document.says(TERMS, "A walk has at most 10 fractions; a number goes, in each step, to its product with the first "
                + "fraction with which this is whole; without one it halts.");
        Beaverhall x = new Beaverhall();
        walked(x, 1, 5000, 1, 0, true);
        for (int i = 1; i < 10; i++) {
            x.fraction(1, 9973);
        }
        Due.is("the 10th", x.fraction(5, 3), 10);
        walked(x, 6, 1, 10, 1, true);
        Due.full("no 11th", () -> x.fraction(1, 2));
        walked(x, 9973, 2, 1, 1, true);
        // The first one takes part ahead of the last one.
        walked(x, 3L * 9973, 1, 3, 1, false);
        x.unwalk();
        x.fraction(10, 15);
        x.fraction(10000, 10000);
        walked(x, 3, 1, 2, 1, false);
        walked(x, 3, 9, 2, 9, false);
    }

    private static void walksToTheBound() {
        Document.says(TERMS, "A walk that would come above 1000000000000000 is at its bound.");
        Beaverhall x = new Beaverhall();
        x.fraction(10, 1);
        walked(x, 1, 15, 1000000000000000L, 15, false);
        walked(x, 1, 16, 1000000000000000L, 15, false);
        walked(x, 1000000000L, 5000, 1000000000000000L, 6, false);
        x.unwalk();
        // 1000000000000001 is 50901851 times 2161 times 9091: one above, and not done.
        x.fraction(2161, 2);
        x.fraction(9091, 1);
        walked(x, 101803702L, 5000, 50901851L * 2161, 1, false);
        walked(x, 101803702L, 1, 50901851L * 2161, 1, false);
        x.unwalk();
        // 999999999999999 is 90090991 times 7317 times 1517: one below, and done.
        x.fraction(7317, 2);
        x.fraction(1517, 1);
        walked(x, 180181982L, 2, 999999999999999L, 2, false);
        walked(x, 180181982L, 5000, 999999999999999L, 2, false);
    }

    private static void walkHalts() {
        Document.says(TERMS, "It has halted if there is no such fraction, also behind as many steps as told.");
        Beaverhall x = new Beaverhall();
        x.fraction(1, 2);
        walked(x, 8, 2, 2, 2, false);
        walked(x, 8, 3, 1, 3, true);
        walked(x, 8, 4, 1, 3, true);
        walked(x, 1, 0, 1, 0, true);
        walked(x, 2, 0, 2, 0, false);
        walked(x, 536870912L, 29, 1, 29, true);
    }
}
