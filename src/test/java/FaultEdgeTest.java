/** The edges that the document names for the seven faults, and promise 5, on lines of every kind. */
public final class FaultEdgeTest {
    /** Right ones on FaultTest.BOARD, with what their words are: n, N new names, t terms, o a term that may be old, g genes. */
    private static final String[][] RIGHT = {
        {"term x", "n"}, {"alias x a", "nt"}, {"isa a c", "tt"}, {"part a c", "tt"}, {"old a", "o"}, {"gene x", "N"},
        {"note h a", "gt"}, {"not g a", "gt"}, {"study h", "g"}};

    public static void main(String[] args) {
        rightLines();
        firstWords();
        missingWords();
        wordsTooMany();
        nothingAtBlank();
        noNames();
        unknownNames();
        takenNames();
        rings();
        farRing();
        oldTerms();
        leastNumberOfWord();
        wordAfterWord();
        firstFaultOfText();
        places();
        whatOfFault();
        Checks.end();
    }

    /** Where word number i of the line begins. */
    private static int begin(String line, int i) {
        int from = 0;
        for (int word = 0; word < i; word++) {
            from = line.indexOf(' ', from) + 1;
        }
        return from;
    }

    private static String with(String line, int i, String word) {
        String[] words = line.split(" ");
        words[i] = word;
        return String.join(" ", words);
    }

    private static void rightLines() {
        Checks.sentence("Lines");
        for (String[] right : RIGHT) {
            FaultTest.right(right[0]);
        }
    }

    private static void firstWords() {
        Checks.sentence("1 WORD: the first word is none of these");
        for (String[] right : RIGHT) {
            String line = right[0];
            String word = line.substring(0, line.indexOf(' '));
            FaultTest.faulty(with(line, 0, word + "s"), 1, 0);
            FaultTest.faulty(with(line, 0, "s" + word), 1, 0);
            FaultTest.faulty(with(line, 0, word.toUpperCase()), 1, 0);
            FaultTest.faulty(with(line, 0, word + word), 1, 0);
            FaultTest.faulty(with(line, 0, word.substring(1)), 1, 0);
            FaultTest.faulty(with(line, 0, word + "\r"), 1, 0);
            FaultTest.faulty(with(line, 0, (char) (word.charAt(0) | 128) + word.substring(1)), 1, 0);
            if (!word.equals("note")) {
                FaultTest.faulty(with(line, 0, word.substring(0, word.length() - 1)), 1, 0);
            }
        }
        FaultTest.faulty("x", 1, 0);
        FaultTest.faulty("\u0000", 1, 0);
        FaultTest.faulty("abcdefghijklmnop x", 1, 0);
    }

    private static void missingWords() {
        Checks.sentence("1 WORD: .. or a word is missing (at the line's end)");
        for (String[] right : RIGHT) {
            for (int i = 1; i <= right[1].length(); i++) {
                int end = begin(right[0], i) - 1;
                FaultTest.faulty(right[0].substring(0, end), 1, end);
            }
        }
    }

    private static void wordsTooMany() {
        Checks.sentence("1 WORD: .. or there is one too many (at it)");
        for (String[] right : RIGHT) {
            int place = right[0].length() + 1;
            for (String more : new String[] {"a", "g", "zz", "-", "a a", "a  a", "abcdefghijklm", "term"}) {
                FaultTest.faulty(right[0] + " " + more, 1, place);
            }
        }
    }

    private static void nothingAtBlank() {
        Checks.sentence("1 WORD: .. or nothing stands before or behind a blank (at where the word would be)");
        for (String[] right : RIGHT) {
            String line = right[0];
            FaultTest.faulty(" " + line, 1, 0);
            FaultTest.faulty("  " + line, 1, 0);
            FaultTest.faulty(line + " ", 1, line.length() + 1);
            FaultTest.faulty(line + "  ", 1, line.length() + 1);
            for (int i = 1; i <= right[1].length(); i++) {
                int place = begin(line, i);
                FaultTest.faulty(line.substring(0, place), 1, place);
                FaultTest.faulty(line.substring(0, place) + " " + line.substring(place), 1, place);
                FaultTest.faulty(line.substring(0, place) + "  ", 1, place);
            }
        }
        FaultTest.faulty(" ", 1, 0);
        FaultTest.faulty("   ", 1, 0);
    }

    private static void noNames() {
        Checks.sentence("2 NAME: a word is no name");
        for (String[] right : RIGHT) {
            for (int i = 1; i <= right[1].length(); i++) {
                for (String bad : new String[] {"-", "abcdefghijklm", "a-", "\u00e4", "a\u0000", "a.b", "g\t"}) {
                    FaultTest.faulty(with(right[0], i, bad), 2, begin(right[0], i));
                }
            }
        }
    }

    private static void unknownNames() {
        Checks.sentence("3 UNKNOWN: no term, or gene, has that name");
        for (String[] right : RIGHT) {
            for (int i = 1; i <= right[1].length(); i++) {
                char kind = right[1].charAt(i - 1);
                if (kind == 't' || kind == 'o') {
                    unknown(right[0], i, "zz", "A", "aa", "g", "abcdefghijkl");
                } else if (kind == 'g') {
                    unknown(right[0], i, "zz", "G", "gg", "a", "bb");
                }
            }
        }
        FaultTest.faulty("alias x x", 3, 8);
        TermDesk desk = new TermDesk();
        Checks.run(desk, "old a");
        Checks.same("of a new object", desk.fault(0), 3);
        Checks.run(desk, "term a x\n");
        Checks.run(desk, "old a");
        Checks.same("a name of a line that was not done", desk.fault(0), 3);
        Checks.run(desk, "old x\nterm a");
        Checks.run(desk, "old a");
        Checks.same("a name of a line behind a fault", desk.fault(0), 3);
    }

    private static void unknown(String line, int i, String... names) {
        for (String name : names) {
            FaultTest.faulty(with(line, i, name), 3, begin(line, i));
        }
    }

    private static void takenNames() {
        Checks.sentence("4 TAKEN: a new name that one of the same kind has");
        for (String name : new String[] {"a", "c", "bb", "o"}) {
            FaultTest.faulty("term " + name, 4, 5);
            FaultTest.faulty("alias " + name + " a", 4, 6);
            FaultTest.faulty("alias " + name + " b", 4, 6);
            FaultTest.right("gene " + name);
        }
        for (String name : new String[] {"g", "h"}) {
            FaultTest.faulty("gene " + name, 4, 5);
            FaultTest.right("term " + name);
            FaultTest.right("alias " + name + " a");
        }
        for (String name : new String[] {"A", "aa", "b_", "b:", "abcdefghijkl"}) {
            FaultTest.right("term " + name);
            FaultTest.right("gene " + name);
        }
        for (int length = 1; length <= 12; length++) {
            alike(length);
        }
    }

    /** A name, another that lacks its last letter, and ones that differ in a single letter are all apart. */
    private static void alike(int length) {
        String name = "abcdefghijkl".substring(0, length);
        StringBuilder text = new StringBuilder("term " + name + "\n");
        text.append(length > 1 ? "term " + name.substring(1) + "\nterm " + name.substring(0, length - 1) + "\n" : "");
        for (int i = 0; i < length; i++) {
            text.append("term ").append(name, 0, i).append('Z').append(name.substring(i + 1)).append('\n');
        }
        TermDesk desk = Checks.desk(text.toString());
        Checks.run(desk, "term " + name);
        Checks.same("told again " + name, desk.fault(0), 4);
    }

    private static void rings() {
        Checks.sentence("5 RING: the second term is the first one, or that is above it (at the second one)");
        for (String word : new String[] {"isa ", "part "}) {
            int second = word.length() + 2;
            FaultTest.faulty(word + "a a", 5, second);
            FaultTest.faulty(word + "b a", 5, second);
            FaultTest.faulty(word + "c a", 5, second);
            FaultTest.faulty(word + "c b", 5, second);
            FaultTest.faulty(word + "c bb", 5, second);
            FaultTest.faulty(word + "b bb", 5, second);
            FaultTest.faulty(word + "bb b", 5, second + 1);
            FaultTest.faulty(word + "bb a", 5, second + 1);
            FaultTest.right(word + "a b");
            FaultTest.right(word + "a bb");
            FaultTest.right(word + "a c");
            FaultTest.right(word + "bb c");
        }
    }

    private static void farRing() {
        Checks.sentence("ABOVE a term are its parents and what is above these");
        StringBuilder text = new StringBuilder(FaultTest.lines("term", 200));
        for (int i = 0; i < 199; i++) {
            text.append("isa ").append(FaultTest.two(i)).append(' ').append(FaultTest.two(i + 1)).append('\n');
        }
        TermDesk desk = Checks.desk(text.toString());
        Checks.run(desk, "part " + FaultTest.two(199) + " " + FaultTest.two(0));
        Checks.same("a ring of all", desk.fault(0), 5);
        Checks.same("links", desk.about(5), 199);
        Checks.run(desk, "part " + FaultTest.two(0) + " " + FaultTest.two(199));
        Checks.same("the other way round", desk.fault(0), 0);
        Checks.same("links", desk.about(5), 200);
        Checks.same("the longest way stays", desk.term(0, 6), 199);
    }

    private static void oldTerms() {
        Checks.sentence("6 OLD: a term in alias, isa, part, note or not is old (at it)");
        for (String[] right : RIGHT) {
            for (int i = 1; i <= right[1].length(); i++) {
                if (right[1].charAt(i - 1) == 't') {
                    FaultTest.faulty(with(right[0], i, "o"), 6, begin(right[0], i));
                }
            }
        }
        FaultTest.right("old o");
        FaultTest.faulty("isa o c", 6, 4);
        TermDesk desk = Checks.desk(FaultTest.BOARD + "alias oo a\nold oo\n");
        for (String line : new String[] {"alias x a", "note h oo", "not g a", "isa a b", "part oo c", "isa a a"}) {
            Checks.run(desk, line);
            Checks.same("old by another name: " + line, desk.fault(0), 6);
        }
        Checks.same("what was told before stays", desk.term(0, 0) + desk.term(0, 3), 2);
    }

    private static void leastNumberOfWord() {
        Checks.sentence("of one word that with the least number");
        FaultTest.faulty("isa c o", 5, 6);
        FaultTest.faulty("part c o", 5, 7);
        FaultTest.faulty("term x a", 1, 7);
        FaultTest.faulty("term x -", 1, 7);
        FaultTest.faulty("study h -", 1, 8);
        FaultTest.faulty("old o -", 1, 6);
        FaultTest.faulty("isa abcdefghijklm a", 2, 4);
    }

    private static void wordAfterWord() {
        Checks.sentence("Of the words of a line, one after the other");
        FaultTest.faulty("isa o o", 6, 4);
        FaultTest.faulty("isa o zz", 6, 4);
        FaultTest.faulty("isa o", 6, 4);
        FaultTest.faulty("isa zz -", 3, 4);
        FaultTest.faulty("isa - zz", 2, 4);
        FaultTest.faulty("isa zz ", 3, 4);
        FaultTest.faulty("isa a a a", 5, 6);
        FaultTest.faulty("alias a zz", 4, 6);
        FaultTest.faulty("alias a", 4, 6);
        FaultTest.faulty("alias x o ", 6, 8);
        FaultTest.faulty("note zz", 3, 5);
        FaultTest.faulty("note - o", 2, 5);
        FaultTest.faulty("note h o a", 6, 7);
        FaultTest.faulty("not zz o", 3, 4);
        FaultTest.faulty("gene g ", 4, 5);
        FaultTest.faulty("study zz zz", 3, 6);
        FaultTest.faulty("tern", 1, 0);
        FaultTest.faulty("tern - -", 1, 0);
    }

    private static void firstFaultOfText() {
        Checks.sentence("The first one as the text is read counts; lines before it stay, nothing of its own line and none behind it is done");
        TermDesk desk = new TermDesk();
        Checks.same("lines", Checks.run(desk, "term a\ngene g\nold b\nterm -\nterm c\n x\n"), 2);
        Checks.same("the first one", desk.fault(0), 3);
        Checks.same("its place", desk.fault(1), 18);
        Checks.same("terms", desk.about(0), 1);
        Checks.same("genes", desk.about(1), 1);
        Checks.same("what stood before it is told no more", Checks.run(desk, "term a"), 0);
        Checks.same("what stood behind it may be told", Checks.run(desk, "term c\nalias d c x\n"), 1);
        Checks.same("nothing of its own line", desk.about(7), 2);
        Checks.same("a fault in the last line", Checks.run(desk, "isa a c\nisa c a"), 1);
        Checks.same("links", desk.about(5), 1);
    }

    private static void places() {
        Checks.sentence("Its PLACE is the byte (from 0) where its word begins");
        StringBuilder text = new StringBuilder();
        for (int lines = 0; lines < 40; lines++) {
            TermDesk desk = new TermDesk();
            Checks.same("lines", Checks.run(desk, text + "note"), lines);
            Checks.same("the place", desk.fault(1), text.length() + 4);
            text.append(lines % 3 == 0 ? "\n" : "term t" + lines + "\n");
        }
    }

    private static void whatOfFault() {
        Checks.sentence("fault: IllegalArgumentException: what is none of these");
        TermDesk fresh = new TermDesk();
        TermDesk stopped = new TermDesk();
        Checks.run(stopped, "\nterm a\nterm a");
        for (int what : new int[] {Integer.MIN_VALUE, -2, -1, 2, 3, 256, Integer.MAX_VALUE}) {
            Checks.refused("fault(" + what + ")", IllegalArgumentException.class, fresh, () -> fresh.fault(what));
            Checks.refused("fault(" + what + ")", IllegalArgumentException.class, stopped, () -> stopped.fault(what));
        }
        Checks.sentence("fault: Of the latest run(): the fault's number (0 without one), its place (NONE without one)");
        Checks.same("the number", stopped.fault(0), 4);
        Checks.same("the place", stopped.fault(1), 13);
        stopped.report(0, 1, 1);
        Checks.feed(stopped, "term b");
        Checks.same("it stays until the next run", stopped.fault(1), 13);
        stopped.run();
        Checks.same("the number without one", stopped.fault(0), 0);
        Checks.same("the place without one", stopped.fault(1), TermDesk.NONE);
        Checks.run(stopped, "-");
        Checks.same("a place of 0", stopped.fault(1), 0);
        stopped.run();
        Checks.same("the number of an empty text", stopped.fault(0), 0);
        Checks.same("the place of an empty text", stopped.fault(1), TermDesk.NONE);
    }
}
