/** Promises 31 to 36: the tag row. */
public final class TagTest {
    public static void main(String[] args) {
        wrongInputs();
        fills();
        runs();
        grows();
        Due.end();
    }

    private static void wrongInputs() {
        Beaverhall x = new Beaverhall();
        for (char wrong : new char[] {0, '`', 'e', 'A', (char) 65535}) {
            Due.bad("tagRow " + wrong, () -> x.tagRow(wrong, 'a'));
            Due.bad("tagRow a " + wrong, () -> x.tagRow('a', wrong));
            Due.bad("tagStart " + wrong, () -> x.tagStart(wrong));
        }
        for (int number : new int[] {Integer.MIN_VALUE, -2, 0, 1, 4, Integer.MAX_VALUE}) {
            Due.bad("tag " + number, () -> x.tag(number, 0));
        }
        Due.bad("tag steps -1", () -> x.tag(2, -1));
        Due.bad("tag steps 2001", () -> x.tag(2, 2001));
        Due.is("length at first", x.tagLength(), 0);
        Due.missing("letter at first", () -> x.tagLetter(0));
        Due.is("all together at first", x.untag(), 0);
    }

    private static void fills() {
        Beaverhall x = new Beaverhall();
        for (char letter = 'a'; letter <= 'd'; letter++) {
            char row = letter;
            for (int i = 1; i <= 6; i++) {
                Due.is("tagRow", x.tagRow(row, 'd'), i);
            }
            Due.full("tagRow of a 7th", () -> x.tagRow(row, 'd'));
            Due.bad("tagRow of a wrong 7th", () -> x.tagRow(row, 'e'));
        }
        for (int i = 1; i <= 40; i++) {
            Due.is("tagStart", x.tagStart('b'), i);
        }
        Due.full("tagStart of a 41st", () -> x.tagStart('b'));
        Due.bad("tagStart of a wrong 41st", () -> x.tagStart('e'));
        Due.is("the beginning is no run", x.tagLength(), 0);
        Due.is("no step", x.tag(3, 0), 0);
        Due.is("the beginning", x.tagLength(), 40);
        Due.is("its last letter", x.tagLetter(39), 'b');
        Due.missing("behind it", () -> x.tagLetter(40));
        Due.missing("ahead of it", () -> x.tagLetter(-1));
        Due.is("all together", x.untag(), 64);
        Due.is("all together again", x.untag(), 0);
        Due.is("the last run stays", x.tagLength(), 40);
        Due.is("tagRow anew", x.tagRow('a', 'a'), 1);
        Due.is("tagStart anew", x.tagStart('a'), 1);
    }

    /** a to bc, b to a, c to aaa, by 2: it comes to a single a. */
    private static void runs() {
        Beaverhall x = new Beaverhall();
        x.tagRow('a', 'b');
        x.tagRow('a', 'c');
        x.tagRow('b', 'a');
        x.tagRow('c', 'a');
        x.tagRow('c', 'a');
        x.tagRow('c', 'a');
        for (int i = 0; i < 3; i++) {
            x.tagStart('a');
        }
        String[] due = {"aaa", "abc", "cbc", "caaa", "aaaaa", "aaabc", "abcbc", "cbcbc", "cbcaaa", "caaaaaa"};
        for (int steps = 0; steps < due.length; steps++) {
            Due.is("tag", x.tag(2, steps), steps);
            Due.is("length", x.tagLength(), due[steps].length());
            for (int i = 0; i < due[steps].length(); i++) {
                Due.is("letter", x.tagLetter(i), due[steps].charAt(i));
            }
            int length = due[steps].length();
            Due.missing("letter behind it", () -> x.tagLetter(length));
        }
        Due.is("to its end", x.tag(2, 2000), 24);
        Due.is("its end", x.tagLength(), 1);
        Due.is("its end", x.tagLetter(0), 'a');
        Due.is("by 3", x.tag(3, 2000), 1);
        Due.is("by 3", x.tagLength(), 2);
        Due.is("by 3", x.tagLetter(1), 'c');
        Due.bad("refused", () -> x.tag(1, 1));
        Due.is("what is refused changes nothing", x.tagLength(), 2);
        x.untag();
        x.tagStart('d');
        x.tagStart('a');
        x.tagStart('b');
        Due.is("a letter without a row puts nothing", x.tag(2, 1), 1);
        Due.is("a letter without a row puts nothing", x.tagLength(), 1);
        Due.is("a letter without a row puts nothing", x.tagLetter(0), 'b');
        Due.is("just as long as the number", x.tag(3, 9), 1);
        Due.is("just as long as the number", x.tagLength(), 0);
    }

    private static void grows() {
        Beaverhall x = new Beaverhall();
        for (int i = 0; i < 6; i++) {
            x.tagRow('a', 'a');
        }
        for (int i = 0; i < 40; i++) {
            x.tagStart('a');
        }
        Due.is("4 more each step, to 400 just", x.tag(2, 2000), 90);
        Due.is("400", x.tagLength(), 400);
        Due.is("the last letter", x.tagLetter(399), 'a');
        Due.is("3 more each step", x.tag(3, 2000), 120);
        Due.is("400", x.tagLength(), 400);
        x.untag();
        for (int i = 0; i < 6; i++) {
            x.tagRow('a', 'a');
        }
        for (int i = 0; i < 39; i++) {
            x.tagStart('a');
        }
        Due.is("ahead of 403", x.tag(2, 2000), 90);
        Due.is("399", x.tagLength(), 399);
        x.untag();
        x.tagRow('a', 'a');
        x.tagRow('a', 'a');
        x.tagStart('a');
        x.tagStart('a');
        Due.is("for ever", x.tag(2, 2000), 2000);
        Due.is("for ever", x.tagLength(), 2);
    }
}
