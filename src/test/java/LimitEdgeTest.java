/** Fault 7: what is full, one before it, and that it is asked last; clear() makes room again. */
public final class LimitEdgeTest {
    public static void main(String[] args) {
        terms();
        genes();
        namesByAlias();
        namesByTerm();
        links();
        linksAskedLast();
        notes();
        limitsApart();
        roomBehindClear();
        within512Calls();
        Checks.end();
    }

    private static String two(int i) {
        return FaultTest.two(i);
    }

    private static String aliases(int from, int to, String term) {
        StringBuilder text = new StringBuilder();
        for (int i = from; i < to; i++) {
            text.append("alias ").append(i).append(' ').append(term).append('\n');
        }
        return text.toString();
    }

    /** So many links among the first 40 terms, from each to those before it. */
    private static String linkLines(int count) {
        StringBuilder text = new StringBuilder();
        int told = 0;
        for (int child = 1; child < 40; child++) {
            for (int parent = 0; parent < child && told < count; parent++) {
                text.append("isa ").append(two(child)).append(' ').append(two(parent)).append('\n');
                told++;
            }
        }
        return text.toString();
    }

    private static String noteLines(int count) {
        StringBuilder text = new StringBuilder();
        for (int i = 0; i < count; i++) {
            text.append("note ").append(two(i % 200)).append(' ').append(two(i / 200)).append('\n');
        }
        return text.toString();
    }

    private static void right(TermDesk desk, String line) {
        Checks.same("lines of " + line, Checks.run(desk, line), 1);
        Checks.same("the fault of " + line, desk.fault(0), 0);
    }

    /** The line stands behind an empty one, so that its first word is not at 0, and before one that is not done. */
    private static void wrong(TermDesk desk, String line, int number, int place) {
        String before = counts(desk);
        Checks.same("lines of " + line, Checks.run(desk, "\n" + line + "\n\n"), 1);
        Checks.same("the fault of " + line, desk.fault(0), number);
        Checks.same("the place of " + line, desk.fault(1), 1 + place);
        Checks.same("nothing of " + line + " is done", counts(desk), before);
    }

    private static String counts(TermDesk desk) {
        StringBuilder counts = new StringBuilder();
        for (int what = 0; what < 8; what++) {
            counts.append(desk.about(what)).append(' ');
        }
        return counts.toString();
    }

    private static void terms() {
        Checks.sentence("7 MANY: there are 200 already (terms; at the line's first word, asked last)");
        TermDesk desk = Checks.desk(FaultTest.lines("term", 199));
        Checks.same("one less", desk.about(0), 199);
        right(desk, "term last");
        Checks.same("full", desk.about(0), 200);
        wrong(desk, "term more", 7, 0);
        wrong(desk, "term more", 7, 0);
        wrong(desk, "term aa", 4, 5);
        wrong(desk, "term a-", 2, 5);
        wrong(desk, "term abcdefghijklm", 2, 5);
        wrong(desk, "term", 1, 4);
        wrong(desk, "term more ", 1, 10);
        wrong(desk, "term more x", 1, 10);
        right(desk, "gene more");
        right(desk, "alias more last");
        wrong(desk, "term more", 4, 5);
        Checks.same("the last one's number", Checks.name(desk, 199, false), "last");
        Checks.refused("term 200", IndexOutOfBoundsException.class, desk, () -> desk.term(200, 0));
    }

    private static void genes() {
        Checks.sentence("7 MANY: there are 200 already (genes)");
        TermDesk desk = Checks.desk(FaultTest.lines("gene", 199));
        Checks.same("one less", desk.about(1), 199);
        right(desk, "gene last");
        Checks.same("full", desk.about(1), 200);
        wrong(desk, "gene more", 7, 0);
        wrong(desk, "gene last", 4, 5);
        wrong(desk, "gene -", 2, 5);
        wrong(desk, "gene more last", 1, 10);
        right(desk, "term more");
        right(desk, "study last");
        Checks.same("the last one's number", Checks.name(desk, 199, true), "last");
        Checks.refused("gene 200", IndexOutOfBoundsException.class, desk, () -> desk.letter(200, true, 0));
    }

    private static void namesByAlias() {
        Checks.sentence("7 MANY: .. or 300 names of terms (told by alias)");
        TermDesk desk = Checks.desk(FaultTest.lines("term", 200) + aliases(0, 99, "aa"));
        Checks.same("one less", desk.about(7), 299);
        right(desk, "alias last ab");
        Checks.same("full", desk.about(7), 300);
        wrong(desk, "alias more ab", 7, 0);
        wrong(desk, "alias last ab", 4, 6);
        wrong(desk, "alias - ab", 2, 6);
        wrong(desk, "alias more zz", 3, 11);
        wrong(desk, "alias more ab ab", 1, 14);
        right(desk, "isa last ac");
        Checks.same("the last name is known", desk.isAbove(2, 1), true);
        right(desk, "old ab");
        wrong(desk, "alias more last", 6, 11);
        wrong(desk, "term more", 7, 0);
    }

    private static void namesByTerm() {
        Checks.sentence("7 MANY: .. or 300 names of terms (told by term)");
        TermDesk desk = Checks.desk("term a\n" + aliases(0, 298, "a"));
        Checks.same("one less", desk.about(7), 299);
        right(desk, "term last");
        Checks.same("full", desk.about(7), 300);
        Checks.same("terms", desk.about(0), 2);
        wrong(desk, "term more", 7, 0);
        wrong(desk, "term 297", 4, 5);
        wrong(desk, "alias more last", 7, 0);
        right(desk, "gene more");
        Checks.same("the last one's name", Checks.name(desk, 1, false), "last");
        right(desk, "part 297 last");
        Checks.same("a link by a late name", desk.isAbove(1, 0), true);
    }

    private static void links() {
        Checks.sentence("7 MANY: .. 600 links (.. or a link, is none more)");
        TermDesk desk = Checks.desk(FaultTest.lines("term", 40) + "alias first aa\n" + linkLines(599));
        Checks.same("one less", desk.about(5), 599);
        right(desk, "isa " + two(1) + " aa");
        Checks.same("none more", desk.about(5), 599);
        right(desk, "part " + two(39) + " " + two(38));
        Checks.same("full", desk.about(5), 600);
        wrong(desk, "isa " + two(39) + " " + two(37), 7, 0);
        wrong(desk, "part " + two(39) + " " + two(37), 7, 0);
        right(desk, "isa " + two(39) + " " + two(38));
        right(desk, "part " + two(1) + " aa");
        right(desk, "isa " + two(1) + " first");
        Checks.same("none more", desk.about(5), 600);
        Checks.same("only the right one is linked", desk.term(39, 0), 1);
    }

    private static void linksAskedLast() {
        Checks.sentence("7 MANY: .. asked last (of 600 links)");
        TermDesk desk = Checks.desk(FaultTest.lines("term", 40) + linkLines(600));
        wrong(desk, "isa " + two(39) + " " + two(39), 5, 7);
        wrong(desk, "isa " + two(0) + " " + two(1), 5, 7);
        wrong(desk, "part " + two(0) + " zz", 3, 8);
        wrong(desk, "part " + two(0) + " -", 2, 8);
        wrong(desk, "isa " + two(39) + " " + two(38) + " ", 1, 10);
        right(desk, "old " + two(38));
        wrong(desk, "isa " + two(39) + " " + two(38), 6, 7);
        wrong(desk, "isa " + two(38) + " " + two(39), 6, 4);
    }

    /** 2000 notes are more than 512 calls feed, but the class is to keep the limit all the same. */
    private static void notes() {
        Checks.sentence("7 MANY: .. or 2000 notes (a note that was there .. is none more)");
        TermDesk desk = Checks.desk(FaultTest.lines("term", 20) + FaultTest.lines("gene", 200) + noteLines(1999));
        Checks.same("one less", desk.about(6), 1999);
        right(desk, "note aa aa");
        Checks.same("none more", desk.about(6), 1999);
        right(desk, "note aa " + two(19));
        Checks.same("full", desk.about(6), 2000);
        wrong(desk, "note ab " + two(19), 7, 0);
        right(desk, "note aa " + two(19));
        right(desk, "note ab aa");
        right(desk, "not ab " + two(19));
        Checks.same("none more", desk.about(6), 2000);
        wrong(desk, "note zz " + two(19), 3, 5);
        wrong(desk, "note ab zz", 3, 8);
        wrong(desk, "note ab " + two(19) + " x", 1, 11);
        right(desk, "old " + two(19));
        wrong(desk, "note ab " + two(19), 6, 8);
        Checks.same("one gene at the last term", desk.term(19, 3), 1);
    }

    private static void limitsApart() {
        Checks.sentence("at most 200 each");
        TermDesk desk = Checks.desk(FaultTest.lines("term", 200) + FaultTest.lines("gene", 200));
        Checks.same("terms", desk.about(0), 200);
        Checks.same("genes", desk.about(1), 200);
        Checks.same("names of terms alone", desk.about(7), 200);
        right(desk, "alias more aa");
        wrong(desk, "term x", 7, 0);
        wrong(desk, "gene x", 7, 0);
    }

    private static void roomBehindClear() {
        Checks.sentence("clear: All is as at first");
        TermDesk desk = Checks.desk(FaultTest.lines("term", 200) + FaultTest.lines("gene", 200) + aliases(0, 100, "aa")
            + linkLines(600) + noteLines(2000));
        wrong(desk, "term more", 7, 0);
        desk.clear();
        Checks.same("nothing is left", counts(desk), "0 0 0 0 0 0 0 0 ");
        String again = FaultTest.lines("term", 200) + FaultTest.lines("gene", 200) + aliases(0, 100, "ab") + linkLines(600)
            + noteLines(2000);
        Checks.same("all again", Checks.run(desk, again), 3100);
        Checks.same("no fault", desk.fault(0), 0);
        Checks.same("all is full again", counts(desk), "200 200 0 0 0 600 2000 300 ");
    }

    /** 600 links in one text: the longest text that is still fed, run and looked at with just 512 calls. */
    private static void within512Calls() {
        Checks.sentence("An object is used for at most 512 calls after it has been made");
        TermDesk desk = new TermDesk();
        String text = FaultTest.lines("term", 40) + linkLines(600) + "gene aa\nnote aa " + two(35) + "\nstudy aa\n"
            + "isa " + two(1) + " " + two(0) + "\n";
        String last = "isa " + two(39) + " " + two(38);
        int feeds = (text.length() + last.length() + 19) / 20;
        Checks.feed(desk, text + last);
        Checks.same("lines", desk.run(), 644);
        Checks.same("the fault", desk.fault(0), 7);
        Checks.same("the place", desk.fault(1), text.length());
        Checks.same("links", desk.about(5), 600);
        Checks.same("candidates", desk.about(3), 6);
        // two trims, the run and the four answers above come to the feeds
        for (int calls = feeds + 7; calls < 512; calls++) {
            Checks.same("the last linked one's parents", desk.term(35, 0), 5);
        }
    }
}
