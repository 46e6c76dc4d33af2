/** Promise 5, with each fault, its place, and that nothing of its line is done. */
public final class FaultTest {
    static final String BOARD = "term a\nterm b\nterm c\nterm o\nisa a b\nisa b c\nisa o c\nold o\nalias bb b\n"
        + "gene g\ngene h\nnote g a\n";

    public static void main(String[] args) {
        ofWhat();
        words();
        names();
        unknown();
        taken();
        rings();
        old();
        firstOfSeveral();
        manyTermsAndNames();
        manyGenes();
        manyLinks();
        manyNotes();
        Checks.end();
    }

    /** The last line has the fault, at a place that is counted from that line's begin. */
    static void faulty(String line, int number, int place) {
        TermDesk desk = Checks.desk(BOARD);
        String before = Checks.state(desk).replaceFirst("fault \\S+ \\S+", "");
        String head = "\nstudy h\n";
        Checks.same("lines done before " + line, Checks.run(desk, head + line + "\nterm behind\n"), 2);
        Checks.same("the fault of " + line, desk.fault(0), number);
        Checks.same("the place of " + line, desk.fault(1), head.length() + place);
        String after = Checks.state(desk).replaceFirst("fault \\S+ \\S+", "");
        Checks.same("the state behind " + line, after, before.replace("about 4 2 0", "about 4 2 1"));
        TermDesk atEnd = Checks.desk(BOARD);
        Checks.run(atEnd, line);
        Checks.same("the fault of a last " + line, atEnd.fault(0), number);
        Checks.same("the place of a last " + line, atEnd.fault(1), place);
    }

    static void right(String line) {
        TermDesk desk = Checks.desk(BOARD);
        Checks.same("lines done of " + line, Checks.run(desk, line), 1);
        Checks.same("no fault of " + line, desk.fault(0), 0);
        Checks.same("no place of " + line, desk.fault(1), TermDesk.NONE);
    }

    private static void ofWhat() {
        TermDesk desk = new TermDesk();
        Checks.same("before a run", desk.fault(0), 0);
        Checks.same("before a run", desk.fault(1), TermDesk.NONE);
        Checks.run(desk, "old x");
        Class<IllegalArgumentException> due = IllegalArgumentException.class;
        Checks.refused("fault(2)", due, desk, () -> desk.fault(2));
        Checks.refused("fault(-1)", due, desk, () -> desk.fault(-1));
        Checks.same("the number", desk.fault(0), 3);
        Checks.same("the place", desk.fault(1), 4);
        Checks.feed(desk, "term a");
        Checks.same("the latest run's until the next", desk.fault(0), 3);
        desk.run();
        Checks.same("without one", desk.fault(0), 0);
        Checks.same("without one", desk.fault(1), TermDesk.NONE);
        Checks.run(desk, "old x");
        desk.run();
        Checks.same("of an empty text", desk.fault(0), 0);
    }

    private static void words() {
        faulty("tern x", 1, 0);
        faulty("terms x", 1, 0);
        faulty("Term x", 1, 0);
        faulty("a", 1, 0);
        faulty(" ", 1, 0);
        faulty("  ", 1, 0);
        faulty(" term x", 1, 0);
        faulty("\tterm x", 1, 0);
        faulty("term", 1, 4);
        faulty("term ", 1, 5);
        faulty("term  x", 1, 5);
        faulty("term x ", 1, 7);
        faulty("term x y", 1, 7);
        faulty("term x  y", 1, 7);
        faulty("gene", 1, 4);
        faulty("gene x y", 1, 7);
        faulty("alias", 1, 5);
        faulty("alias x", 1, 7);
        faulty("alias x ", 1, 8);
        faulty("alias x  a", 1, 8);
        faulty("alias x a b", 1, 10);
        faulty("isa a", 1, 5);
        faulty("isa a c b", 1, 8);
        faulty("isa a c ", 1, 8);
        faulty("part a", 1, 6);
        faulty("part a c b", 1, 9);
        faulty("old", 1, 3);
        faulty("old a b", 1, 6);
        faulty("note g", 1, 6);
        faulty("note h a b", 1, 9);
        faulty("not", 1, 3);
        faulty("not g a b", 1, 8);
        faulty("study", 1, 5);
        faulty("study g g", 1, 8);
    }

    private static void names() {
        faulty("term abcdefghijklm", 2, 5);
        right("term abcdefghijkl");
        right("gene azAZ09_:");
        String bad = "`{@[/;^-.\u0001\u0009\r\u0000\u007f\u0080\u00e1\u00ff";
        for (int i = 0; i < bad.length(); i++) {
            faulty("term a" + bad.charAt(i), 2, 5);
            faulty("gene " + bad.charAt(i) + "a", 2, 5);
        }
        faulty("alias x- a", 2, 6);
        faulty("alias x a-", 2, 8);
        faulty("isa a- b", 2, 4);
        faulty("part a b-", 2, 7);
        faulty("old a-", 2, 4);
        faulty("note g- a", 2, 5);
        faulty("not g a-", 2, 6);
        faulty("study g\r", 2, 6);
    }

    private static void unknown() {
        faulty("alias x g", 3, 8);
        faulty("isa x a", 3, 4);
        faulty("isa a x", 3, 6);
        faulty("part A b", 3, 5);
        faulty("old g", 3, 4);
        faulty("note a a", 3, 5);
        faulty("note g g", 3, 7);
        faulty("not x a", 3, 4);
        faulty("not g x", 3, 6);
        faulty("study a", 3, 6);
        faulty("old abcdefa", 3, 4);
    }

    private static void taken() {
        faulty("term a", 4, 5);
        faulty("term bb", 4, 5);
        faulty("term o", 4, 5);
        faulty("alias a a", 4, 6);
        faulty("alias bb b", 4, 6);
        faulty("gene g", 4, 5);
        right("term g");
        right("gene a");
        right("alias g bb");
        TermDesk desk = Checks.desk("term abcdefghijkl\nterm abcdefghijkm\nterm abcdef\nterm abcdeg\nterm bcdef\n");
        Checks.run(desk, "term abcdefghijkm");
        Checks.same("long names are told apart", desk.fault(0), 4);
    }

    private static void rings() {
        faulty("isa a a", 5, 6);
        faulty("isa b a", 5, 6);
        faulty("part c a", 5, 7);
        faulty("part bb a", 5, 8);
        faulty("isa b bb", 5, 6);
        faulty("isa c o", 5, 6);
        right("isa a c");
        right("isa a b");
        right("part a b");
    }

    private static void old() {
        faulty("alias x o", 6, 8);
        faulty("isa o a", 6, 4);
        faulty("isa a o", 6, 6);
        faulty("part o o", 6, 5);
        faulty("part a o", 6, 7);
        faulty("note h o", 6, 7);
        faulty("not h o", 6, 6);
        right("old o");
    }

    private static void firstOfSeveral() {
        faulty("term a-b y", 2, 5);
        faulty("term a y", 4, 5);
        faulty("isa x y-", 3, 4);
        faulty("isa a- ", 2, 4);
        faulty("isa o", 6, 4);
        faulty("isa a a x", 5, 6);
        faulty("alias a x", 4, 6);
        faulty("note x ", 3, 5);
    }

    static String two(int i) {
        return "" + (char) ('a' + i / 26) + (char) ('a' + i % 26);
    }

    static String lines(String first, int count) {
        StringBuilder text = new StringBuilder();
        for (int i = 0; i < count; i++) {
            text.append(first).append(' ').append(two(i)).append('\n');
        }
        return text.toString();
    }

    private static void last(TermDesk desk, String line, int number, int place) {
        Checks.run(desk, "\n" + line);
        Checks.same("the fault of " + line, desk.fault(0), number);
        Checks.same("the place of " + line, desk.fault(1), number == 0 ? TermDesk.NONE : 1 + place);
    }

    private static void manyTermsAndNames() {
        TermDesk desk = Checks.desk(lines("term", 199));
        last(desk, "term last", 0, 0);
        last(desk, "term more", 7, 0);
        last(desk, "term aa", 4, 5);
        last(desk, "term more x", 1, 10);
        Checks.same("terms", desk.about(0), 200);
        StringBuilder aliases = new StringBuilder();
        for (int i = 0; i < 100; i++) {
            aliases.append("alias ").append(i).append(" last\n");
        }
        Checks.same("a hundred more names", Checks.run(desk, aliases.toString()), 100);
        Checks.same("names", desk.about(7), 300);
        last(desk, "alias more aa", 7, 0);
        last(desk, "alias 5 aa", 4, 6);
        last(desk, "alias more x", 3, 11);
        last(desk, "alias more aa ", 1, 14);
        last(desk, "old aa", 0, 0);
        last(desk, "alias more aa", 6, 11);
        Checks.same("names", desk.about(7), 300);
        TermDesk named = Checks.desk("term a\n" + lines("alias", 299).replace("\n", " a\n"));
        last(named, "term more", 7, 0);
        Checks.same("terms", named.about(0), 1);
    }

    private static void manyGenes() {
        TermDesk desk = Checks.desk(lines("gene", 200));
        last(desk, "gene more", 7, 0);
        last(desk, "gene aa", 4, 5);
        last(desk, "term aa", 0, 0);
        Checks.same("genes", desk.about(1), 200);
    }

    private static void manyLinks() {
        StringBuilder text = new StringBuilder(lines("term", 40));
        int links = 0;
        for (int child = 1; child < 40; child++) {
            for (int parent = 0; parent < child && links < 600; parent++) {
                text.append("isa ").append(two(child)).append(' ').append(two(parent)).append('\n');
                links++;
            }
        }
        TermDesk desk = Checks.desk(text.toString());
        Checks.same("links", desk.about(5), 600);
        last(desk, "isa " + two(39) + " " + two(38), 7, 0);
        last(desk, "part " + two(39) + " " + two(38), 7, 0);
        last(desk, "part " + two(1) + " " + two(0), 0, 0);
        last(desk, "isa " + two(0) + " " + two(1), 5, 7);
        Checks.same("links", desk.about(5), 600);
    }

    /** 2000 notes are more than 512 calls feed, but the class is to keep the limit all the same. */
    private static void manyNotes() {
        StringBuilder text = new StringBuilder(lines("term", 11) + lines("gene", 200));
        for (int i = 0; i < 2000; i++) {
            text.append("note ").append(two(i % 200)).append(' ').append(two(i / 200)).append('\n');
        }
        TermDesk desk = Checks.desk(text.toString());
        Checks.same("notes", desk.about(6), 2000);
        last(desk, "note aa " + two(10), 7, 0);
        last(desk, "not aa " + two(10), 0, 0);
        last(desk, "note aa aa", 0, 0);
        Checks.same("notes", desk.about(6), 2000);
        Checks.same("the term without notes", desk.term(10, 3), 0);
    }
}
