/** The edges that the document names for texts, lines, words and names, and for promises 2 to 4. */
public final class TextEdgeTest {
    private static final int NEW_LINES = 0x0a0a0a0a;
    private static final String LETTERS = "abcdefghijklmnopqrstuvwxyzABCDEFGHIJKLMNOPQRSTUVWXYZ0123456789_:";

    public static void main(String[] args) {
        fullText();
        refusedFeedLeavesBytes();
        bytesInOrder();
        lengthsAnswered();
        trimsTaken();
        trimmedBytesGo();
        usedUp();
        linesCounted();
        linesBeforeFault();
        lineEnds();
        blanks();
        lettersOfNames();
        lengthsOfNames();
        namesOfTwoKinds();
        Checks.end();
    }

    /** 40000 bytes are more than 512 calls feed, but the class is to keep the limit all the same. */
    private static TermDesk full() {
        TermDesk desk = new TermDesk();
        for (int i = 0; i < 2000; i++) {
            desk.feed(NEW_LINES, NEW_LINES, NEW_LINES, NEW_LINES, NEW_LINES);
        }
        return desk;
    }

    private static void fullText() {
        Checks.sentence("feed: IllegalStateException: there would be more than 40000");
        for (int less = 0; less < 20; less++) {
            TermDesk desk = full();
            desk.trim(less);
            Checks.refused("feed behind " + (40000 - less), IllegalStateException.class, desk, () -> desk.feed(1, 2, 3, 4, 5));
        }
        TermDesk desk = full();
        desk.trim(20);
        Checks.same("feed behind 39980", desk.feed(NEW_LINES, NEW_LINES, NEW_LINES, NEW_LINES, NEW_LINES), 40000);
        Checks.same("run of all", desk.run(), 40000);
        Checks.same("feed behind the run", desk.feed(0, 0, 0, 0, 0), 20);
    }

    private static void refusedFeedLeavesBytes() {
        Checks.sentence("A call that throws changes nothing");
        TermDesk desk = full();
        desk.trim(20);
        Checks.feed(desk, "gene abcdefghijkl");
        Checks.refused("feed behind 39997", IllegalStateException.class, desk, () -> desk.feed(-1, -1, -1, -1, -1));
        Checks.same("run", desk.run(), 39981);
        Checks.same("the gene", Checks.name(desk, 0, true), "abcdefghijkl");
    }

    private static void bytesInOrder() {
        Checks.sentence("feed: Twenty bytes come behind the text, the highest of each number first");
        int[] strange = {0, 1, 9, 11, 13, 32, 127, 128, 138, 160, 255};
        for (int place = 0; place < 20; place++) {
            for (int value : strange) {
                int[] numbers = {NEW_LINES, NEW_LINES, NEW_LINES, NEW_LINES, NEW_LINES};
                int shift = 24 - place % 4 * 8;
                numbers[place / 4] = numbers[place / 4] & ~(255 << shift) | value << shift;
                TermDesk desk = new TermDesk();
                desk.feed(NEW_LINES, NEW_LINES, NEW_LINES, NEW_LINES, NEW_LINES);
                desk.feed(numbers[0], numbers[1], numbers[2], numbers[3], numbers[4]);
                Checks.same("lines before byte " + value + " at " + place, desk.run(), 20 + place);
                Checks.same("the fault of byte " + value + " at " + place, desk.fault(0), 1);
                Checks.same("the place of byte " + value + " at " + place, desk.fault(1), 20 + place);
            }
        }
        TermDesk desk = new TermDesk();
        Checks.feed(desk, "gene abcdefghijkl\n\n\n\n\nstudy abcdefghijkl");
        Checks.same("two times twenty bytes", desk.run(), 6);
        Checks.same("the gene", Checks.name(desk, 0, true), "abcdefghijkl");
        Checks.same("the study", desk.about(2), 1);
    }

    private static void lengthsAnswered() {
        Checks.sentence("feed: how many it has");
        TermDesk desk = new TermDesk();
        for (int i = 1; i <= 500; i++) {
            Checks.same("feed", desk.feed(i, -i, Integer.MIN_VALUE, Integer.MAX_VALUE, 0), 20 * i);
        }
    }

    private static void trimsTaken() {
        Checks.sentence("trim: IllegalArgumentException: n is not 0 .. 20, or more than there are");
        int[] far = {Integer.MIN_VALUE, -21, -20, 22, 40, 256, 65536, Integer.MAX_VALUE};
        for (int length = 0; length <= 42; length++) {
            for (int n = -1; n <= 21; n++) {
                trimOf(length, n);
            }
            for (int n : far) {
                trimOf(length, n);
            }
        }
    }

    private static void trimOf(int length, int n) {
        TermDesk desk = new TermDesk();
        Checks.feed(desk, "\n".repeat(length));
        String call = "trim(" + n + ") of " + length;
        if (n >= 0 && n <= 20 && n <= length) {
            Checks.same(call, desk.trim(n), length - n);
            Checks.same("run behind " + call, desk.run(), length - n);
        } else {
            Checks.refused(call, IllegalArgumentException.class, desk, () -> desk.trim(n));
            Checks.same("run behind " + call, desk.run(), length);
        }
    }

    private static void trimmedBytesGo() {
        Checks.sentence("trim: The last n bytes of the text go");
        TermDesk desk = new TermDesk();
        Checks.feed(desk, "term abcdefgh");
        for (int left = 12; left >= 6; left--) {
            Checks.same("trim(1)", desk.trim(1), left);
        }
        Checks.feed(desk, "xyz\nterm a");
        Checks.same("run", desk.run(), 2);
        Checks.same("what was left and what came behind it", Checks.name(desk, 0, false), "axyz");
        Checks.feed(desk, "term b\nterm c");
        Checks.same("all but the line's end goes", desk.trim(7), 6);
        Checks.same("run", desk.run(), 1);
        Checks.feed(desk, "old b");
        Checks.same("all goes", desk.trim(5), 0);
        Checks.same("run of nothing", desk.run(), 0);
        Checks.same("terms", desk.about(0), 3);
    }

    private static void usedUp() {
        Checks.sentence("run as a whole: then it is used up");
        TermDesk desk = new TermDesk();
        Checks.feed(desk, "te");
        Checks.feed(desk, "rm a\nter");
        Checks.same("nothing is done before the run", desk.about(0), 0);
        Checks.feed(desk, "m b");
        Checks.same("run", desk.run(), 2);
        Checks.same("its length behind the run", desk.trim(0), 0);
        Checks.refused("trim behind the run", IllegalArgumentException.class, desk, () -> desk.trim(1));
        Checks.same("run again", desk.run(), 0);
        Checks.same("a fault in the first line", Checks.run(desk, "x\nterm c\nterm d"), 0);
        Checks.same("its length behind the fault", desk.trim(0), 0);
        Checks.same("run again", desk.run(), 0);
        Checks.same("terms", desk.about(0), 2);
        Checks.same("a line's rest does not come behind", Checks.run(desk, "term c\nter"), 1);
        Checks.same("it is a line of its own", Checks.run(desk, "m d"), 0);
        Checks.same("terms", desk.about(0), 3);
    }

    private static void linesCounted() {
        Checks.sentence("run: how many lines were done (those without words, too)");
        lines("", 0);
        lines("\n", 1);
        lines("\n\n", 2);
        lines("term a", 1);
        lines("term a\n", 1);
        lines("term a\n\n", 2);
        lines("\nterm a", 2);
        lines("\n\n\nterm a\n\n\nterm b", 7);
        lines("term a\nterm b\nold a\nold a\n", 4);
    }

    private static void lines(String text, int due) {
        TermDesk desk = new TermDesk();
        Checks.same("lines of " + text, Checks.run(desk, text), due);
        Checks.same("the fault of " + text, desk.fault(0), 0);
        Checks.same("the place of " + text, desk.fault(1), TermDesk.NONE);
    }

    private static void linesBeforeFault() {
        Checks.sentence("A line of no bytes is passed (one of a blank alone is not); an empty text has no lines");
        stopped(" ", 0, 0);
        stopped(" \n", 0, 0);
        stopped("\n ", 1, 1);
        stopped("\n \n\n", 1, 1);
        stopped("term a\n ", 1, 7);
        stopped("term a\n\n \nterm b", 2, 8);
        stopped("\n\n  \n", 2, 2);
    }

    private static void stopped(String text, int done, int place) {
        TermDesk desk = new TermDesk();
        Checks.same("lines of " + text, Checks.run(desk, text), done);
        Checks.same("the fault of " + text, desk.fault(0), 1);
        Checks.same("the place of " + text, desk.fault(1), place);
    }

    private static void lineEnds() {
        Checks.sentence("A LINE ends with the byte 10 (the last one may lack it)");
        for (int other : new int[] {0, 11, 12, 13, 133, 138, 255}) {
            TermDesk desk = new TermDesk();
            Checks.same("byte " + other + " ends no line", Checks.run(desk, "term a" + (char) other + "term b"), 0);
            Checks.same("it is no letter either", desk.fault(0), 2);
        }
        TermDesk desk = Checks.desk("term a\nterm b");
        Checks.same("a last line without its end", desk.about(0), 2);
    }

    private static void blanks() {
        Checks.sentence("WORDS are parted by one blank (32) each");
        for (int other : new int[] {0, 9, 31, 33, 95, 160}) {
            TermDesk desk = new TermDesk();
            Checks.same("byte " + other + " parts no words", Checks.run(desk, "term" + (char) other + "a"), 0);
            Checks.same("the first word is wrong", desk.fault(0), 1);
            Checks.same("at its begin", desk.fault(1), 0);
        }
    }

    private static void lettersOfNames() {
        Checks.sentence("NAMES have .. of the letters a to z, A to Z, digits, _ and :");
        for (int value = 0; value < 256; value++) {
            if (value != 10 && value != 32) {
                char letter = (char) value;
                int due = LETTERS.indexOf(letter) >= 0 ? 0 : 2;
                nameOf("" + letter, due);
                nameOf(letter + "bcdefghijkl", due);
                nameOf("a" + letter + "c", due);
                nameOf("abcdefghijk" + letter, due);
            }
        }
    }

    private static void lengthsOfNames() {
        Checks.sentence("NAMES have 1 to 12");
        for (int length = 1; length <= 12; length++) {
            nameOf("n".repeat(length), 0);
        }
        for (int length : new int[] {13, 14, 18, 19, 24, 25, 255, 256, 257, 262, 268, 300}) {
            nameOf("n".repeat(length), 2);
        }
        nameOf("", 1);
    }

    /** As the name of a new term and of a new gene. */
    private static void nameOf(String name, int due) {
        for (String kind : new String[] {"term ", "gene "}) {
            TermDesk desk = new TermDesk();
            Checks.same("lines of " + kind + name, Checks.run(desk, "\n" + kind + name + "\n"), due == 0 ? 2 : 1);
            Checks.same("the fault of " + kind + name, desk.fault(0), due);
            Checks.same("the place of " + kind + name, desk.fault(1), due == 0 ? TermDesk.NONE : 6);
            if (due == 0) {
                Checks.same("the name", Checks.name(desk, 0, kind.equals("gene ")), name);
            } else {
                Checks.same("nothing is made", desk.about(0) + desk.about(1), 0);
            }
        }
    }

    private static void namesOfTwoKinds() {
        Checks.sentence("Terms and genes have names of their own; a term may have more than one");
        TermDesk desk = Checks.desk("term a\ngene a\ngene b\nalias b a\nalias c b\nalias d c\nterm e\nisa d e\nnote a d\n");
        Checks.same("terms", desk.about(0), 2);
        Checks.same("genes", desk.about(1), 2);
        Checks.same("names of terms", desk.about(7), 5);
        Checks.same("a link by a later name", desk.isAbove(1, 0), true);
        Checks.same("a note by a later name", desk.isAt(0, 0), true);
        Checks.run(desk, "note c d");
        Checks.same("a term's later name is no gene's", desk.fault(0), 3);
        Checks.same("its first name stays the first", Checks.name(desk, 0, false), "a");
    }
}
