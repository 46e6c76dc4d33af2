/** The edges that the document names for terms and genes, and for promises 6 to 10. */
public final class BoardEdgeTest {
    private static final int[] FAR = {Integer.MIN_VALUE, -256, -1, 256, 65536, Integer.MAX_VALUE};
    private static final Class<IndexOutOfBoundsException> NO_SUCH = IndexOutOfBoundsException.class;
    private static final Class<IllegalArgumentException> WRONG = IllegalArgumentException.class;

    public static void main(String[] args) {
        numbersInOrder();
        toldOften();
        notAndNote();
        aboveIsNotItself();
        aboveTheFirstAndLast();
        atEveryTerm();
        atOnlyUpward();
        linkedLast();
        studyOfNoneAndAll();
        oldAndCandidates();
        mostParents();
        longestWays();
        waysInAnyOrder();
        wrongAbout();
        wrongTerms();
        lettersOfNames();
        wrongLetters();
        wrongPairs();
        Checks.end();
    }

    private static String numbered(String first, int count) {
        StringBuilder text = new StringBuilder();
        for (int i = 0; i < count; i++) {
            text.append(first).append(' ').append(i).append('\n');
        }
        return text.toString();
    }

    private static void numbersInOrder() {
        Checks.sentence("TERMS and GENES have numbers 0, 1, .. in the order in which they came");
        TermDesk desk = Checks.desk("gene z\nterm z\ngene y\n");
        Checks.run(desk, "term z\nterm no");
        Checks.run(desk, "term b\nalias c b\nterm a\ngene a\n");
        String names = Checks.name(desk, 0, false) + Checks.name(desk, 1, false) + Checks.name(desk, 2, false);
        Checks.same("terms", names, "zba");
        Checks.same("genes", Checks.name(desk, 0, true) + Checks.name(desk, 1, true) + Checks.name(desk, 2, true), "zya");
        TermDesk most = Checks.desk(numbered("term", 200) + numbered("gene", 200));
        for (int i = 0; i < 200; i++) {
            Checks.same("term " + i, Checks.name(most, i, false), "" + i);
            Checks.same("gene " + i, Checks.name(most, i, true), "" + i);
        }
    }

    private static void toldOften() {
        Checks.sentence("the second one becomes a parent of the first one (once, however often it is told)");
        TermDesk desk = Checks.desk("term a\nterm b\nalias B b\nalias A a\nisa a b\nisa a b\npart a b\npart A B\nisa a B\n");
        Checks.same("links", desk.about(5), 1);
        Checks.same("parents", desk.term(0, 0), 1);
        Checks.run(desk, "isa a b\n");
        Checks.same("links of a later run", desk.about(5), 1);
        Checks.run(desk, "gene g\nnote g a\nnote g A\nstudy g\nstudy g\nold b\nold B\n");
        Checks.same("notes", desk.about(6), 1);
        Checks.same("the study", desk.about(2), 1);
        Checks.same("lines that tell it again are no fault", desk.fault(0), 0);
        Checks.same("genes at it", desk.term(0, 3), 1);
    }

    private static void notAndNote() {
        Checks.sentence("not: nothing is noted (a note that was there stays)");
        TermDesk desk = Checks.desk("term a\nterm b\nisa a b\ngene g\nstudy g\nnot g a\n");
        Checks.same("nothing is noted", desk.about(6), 0);
        Checks.same("at it", desk.isAt(0, 0), false);
        Checks.run(desk, "note g a\nnot g a\nnot g b\n");
        Checks.same("it stays", desk.about(6), 1);
        Checks.same("at it", desk.isAt(0, 0), true);
        Checks.same("at the one above it", desk.isAt(0, 1), true);
        Checks.run(desk, "note g b");
        Checks.same("a note of its own", desk.about(6), 2);
        Checks.same("genes at the one above it", desk.term(1, 3), 1);
    }

    private static void aboveIsNotItself() {
        Checks.sentence("isAbove: Whether term a is above term b (parents and what is above these, not the term itself)");
        TermDesk desk = Checks.desk(numbered("term", 5) + "isa 0 1\nisa 1 2\nisa 0 2\n");
        for (int i = 0; i < 5; i++) {
            Checks.same("above itself " + i, desk.isAbove(i, i), false);
        }
        Checks.same("its parent", desk.isAbove(1, 0), true);
        Checks.same("its child", desk.isAbove(0, 1), false);
        Checks.same("a parent's parent that is a parent, too", desk.term(0, 1), 2);
        Checks.same("one that stands alone", desk.term(4, 1) + desk.term(4, 2), 0);
    }

    private static void aboveTheFirstAndLast() {
        Checks.sentence("term: terms above it (1), terms that it is above (2)");
        TermDesk up = Checks.desk(numbered("term", 200) + chain(1));
        TermDesk down = Checks.desk(numbered("term", 200) + chain(-1));
        for (int i = 0; i < 200; i++) {
            Checks.same("above " + i, up.term(i, 1), 199 - i);
            Checks.same("below " + i, up.term(i, 2), i);
            Checks.same("way up from " + i, up.term(i, 6), 199 - i);
            Checks.same("above " + i, down.term(i, 1), i);
            Checks.same("below " + i, down.term(i, 2), 199 - i);
            Checks.same("way up from " + i, down.term(i, 6), i);
        }
        for (int a = 0; a < 200; a += 9) {
            for (int b = 0; b < 200; b++) {
                Checks.same("isAbove(" + a + ", " + b + ")", up.isAbove(a, b), a > b);
                Checks.same("isAbove(" + a + ", " + b + ")", down.isAbove(a, b), a < b);
            }
        }
    }

    /** Each of 200 terms has the next one, or the one before it, as its parent. */
    private static String chain(int step) {
        StringBuilder text = new StringBuilder();
        for (int i = 0; i < 200; i++) {
            if (i + step >= 0 && i + step < 200) {
                text.append("isa ").append(i).append(' ').append(i + step).append('\n');
            }
        }
        return text.toString();
    }

    private static void atEveryTerm() {
        Checks.sentence("A gene is AT a term if it is noted of that term or of one that the term is above");
        StringBuilder notes = new StringBuilder();
        for (int i = 0; i < 200; i++) {
            notes.append("note ").append(i).append(' ').append(i).append('\n');
        }
        String board = numbered("term", 200) + numbered("gene", 200);
        TermDesk alone = Checks.desk(board + notes);
        TermDesk notedFirst = Checks.desk(board + notes + chain(1));
        TermDesk linkedFirst = Checks.desk(board + chain(1) + notes);
        for (int gene = 0; gene < 200; gene++) {
            for (int term = 0; term < 200; term++) {
                String call = "isAt(" + gene + ", " + term + ")";
                Checks.same(call + " alone", alone.isAt(gene, term), gene == term);
                Checks.same(call + " noted first", notedFirst.isAt(gene, term), gene <= term);
                Checks.same(call + " linked first", linkedFirst.isAt(gene, term), gene <= term);
            }
            Checks.same("genes at " + gene, alone.term(gene, 3), 1);
            Checks.same("genes at " + gene, notedFirst.term(gene, 3), gene + 1);
            Checks.same("of the study at " + gene, notedFirst.term(gene, 4), 0);
        }
    }

    private static void atOnlyUpward() {
        Checks.sentence("isAt: Whether a gene is at a term (not at those below, nor beside)");
        TermDesk desk = Checks.desk("term top\nterm mid\nterm side\nterm low\nisa mid top\nisa side top\nisa low mid\n"
            + "gene g\ngene h\ngene i\nnote g mid\nnote h top\n");
        for (int term = 0; term < 4; term++) {
            Checks.same("g at " + term, desk.isAt(0, term), term <= 1);
            Checks.same("h at " + term, desk.isAt(1, term), term == 0);
            Checks.same("i at " + term, desk.isAt(2, term), false);
        }
    }

    private static void linkedLast() {
        Checks.sentence("ABOVE a term are its parents and what is above these (links told in any order)");
        TermDesk desk = Checks.desk(numbered("term", 6) + "gene g\nstudy g\nnote g 5\nisa 1 0\nisa 3 2\nisa 5 4\n");
        Checks.same("candidates", desk.about(3), 2);
        Checks.run(desk, "isa 2 1");
        Checks.same("not yet", desk.isAt(0, 0), false);
        Checks.run(desk, "part 4 3");
        Checks.same("the first above the last", desk.isAbove(0, 5), true);
        Checks.same("the last's gene at the first", desk.isAt(0, 0), true);
        Checks.same("candidates", desk.about(3), 6);
        Checks.same("the way", desk.term(5, 6), 5);
    }

    private static void studyOfNoneAndAll() {
        Checks.sentence("THE STUDY is some of the genes (none, one, all)");
        TermDesk desk = Checks.desk("term t\n" + numbered("gene", 200));
        Checks.same("none", desk.about(2), 0);
        StringBuilder notes = new StringBuilder();
        for (int i = 0; i < 200; i++) {
            notes.append("note ").append(i).append(" t\n");
        }
        Checks.run(desk, notes.toString());
        Checks.same("at it of none", desk.term(0, 4), 0);
        Checks.same("candidates of none", desk.about(3), 0);
        Checks.run(desk, "study 199");
        Checks.same("one", desk.about(2), 1);
        Checks.same("at it of one", desk.term(0, 4), 1);
        Checks.same("candidates of one", desk.about(3), 1);
        Checks.run(desk, numbered("study", 200));
        Checks.same("all", desk.about(2), 200);
        Checks.same("at it of all", desk.term(0, 4), 200);
        Checks.same("at it", desk.term(0, 3), 200);
    }

    private static void oldAndCandidates() {
        Checks.sentence("CANDIDATES are terms that are not old and have a gene of the study at them");
        TermDesk desk = Checks.desk(numbered("term", 5) + "isa 0 1\nisa 1 2\ngene g\ngene h\nnote g 0\nnote h 3\n");
        Checks.same("without a study", desk.about(3), 0);
        Checks.run(desk, "study g");
        Checks.same("those above, too", desk.about(3), 3);
        Checks.run(desk, "old 1");
        Checks.same("without the old one", desk.about(3), 2);
        Checks.same("what the old one links stays", desk.isAt(0, 2), true);
        Checks.same("genes at the old one", desk.term(1, 3), 1);
        Checks.same("old", desk.term(1, 5), 1);
        Checks.same("not old", desk.term(0, 5) + desk.term(2, 5), 0);
        Checks.run(desk, "old 0\nold 2\n");
        Checks.same("none is left", desk.about(3), 0);
        Checks.run(desk, "study h");
        Checks.same("another one", desk.about(3), 1);
    }

    private static void mostParents() {
        Checks.sentence("term: how many parents (what = 0)");
        StringBuilder text = new StringBuilder(numbered("term", 200));
        for (int i = 1; i < 200; i++) {
            text.append("isa 0 ").append(i).append('\n');
        }
        for (int i = 1; i < 199; i++) {
            text.append("part ").append(i).append(" 199\n");
        }
        TermDesk desk = Checks.desk(text.toString());
        Checks.same("all others", desk.term(0, 0), 199);
        Checks.same("above it", desk.term(0, 1), 199);
        Checks.same("the last one's children and theirs", desk.term(199, 2), 199);
        Checks.same("one parent", desk.term(198, 0), 1);
        Checks.same("none", desk.term(199, 0), 0);
        Checks.same("the longer way", desk.term(0, 6), 2);
        Checks.same("links", desk.about(5), 397);
    }

    private static void longestWays() {
        Checks.sentence("term: the longest way of links up from it (6)");
        TermDesk desk = Checks.desk(numbered("term", 8) + "isa 0 7\nisa 0 1\nisa 1 2\nisa 2 7\nisa 0 3\nisa 3 4\nisa 4 5\nisa 5 7\n");
        int[] due = {4, 2, 1, 3, 2, 1, 0, 0};
        for (int term = 0; term < 8; term++) {
            Checks.same("way up from " + term, desk.term(term, 6), due[term]);
        }
        Checks.run(desk, "isa 7 6");
        Checks.same("one link more", desk.term(0, 6), 5);
        Checks.run(desk, "old 5\nold 7");
        Checks.same("through old ones", desk.term(0, 6), 5);
    }

    private static void waysInAnyOrder() {
        Checks.sentence("term: the longest way of links up from it (6), whatever was asked before");
        TermDesk desk = Checks.desk(numbered("term", 200) + chain(1));
        int[] asked = {0, 199, 0, 198, 0, 197, 1, 199, 1, 198, 2, 199, 0, 0, 199, 199, 100, 199, 101, 198, 0, 100};
        for (int i = 0; i < asked.length; i++) {
            Checks.same("question " + i + " of " + asked[i], desk.term(asked[i], 6), 199 - asked[i]);
        }
        desk.term(0, 6);
        desk.clear();
        Checks.run(desk, numbered("term", 200));
        Checks.same("behind clear()", desk.term(199, 6) + desk.term(198, 6) + desk.term(0, 6), 0);
    }

    private static void wrongAbout() {
        Checks.sentence("about: IllegalArgumentException");
        TermDesk fresh = new TermDesk();
        TermDesk desk = Checks.desk(ReportTest.STUDY);
        for (int what = 0; what < 8; what++) {
            Checks.same("about(" + what + ") of a new object", fresh.about(what), 0);
        }
        for (int what : new int[] {-1, 8}) {
            Checks.refused("about(" + what + ")", WRONG, fresh, () -> fresh.about(what));
        }
        for (int what : FAR) {
            Checks.refused("about(" + what + ")", WRONG, desk, () -> desk.about(what));
        }
    }

    private static void wrongTerms() {
        Checks.sentence("term: IndexOutOfBoundsException; IllegalArgumentException: what is none of these");
        TermDesk fresh = new TermDesk();
        Checks.refused("term(0, 0) of a new object", NO_SUCH, fresh, () -> fresh.term(0, 0));
        TermDesk desk = Checks.desk("term a\nterm b\nalias c b\ngene g\ngene h\ngene i\n");
        for (int what : new int[] {0, 5, 6, 7, -1}) {
            Checks.refused("term(2, " + what + ")", NO_SUCH, desk, () -> desk.term(2, what));
            Checks.refused("term(-1, " + what + ")", NO_SUCH, desk, () -> desk.term(-1, what));
        }
        for (int far : FAR) {
            Checks.refused("term(" + far + ", 0)", NO_SUCH, desk, () -> desk.term(far, 0));
            Checks.refused("term(1, " + far + ")", WRONG, desk, () -> desk.term(1, far));
            Checks.refused("term(" + far + ", " + far + ")", NO_SUCH, desk, () -> desk.term(far, far));
        }
        Checks.refused("term(0, 7)", WRONG, desk, () -> desk.term(0, 7));
    }

    private static void lettersOfNames() {
        Checks.sentence("letter: Letter i of the first name; NONE behind its end, and for i below 0");
        for (int length = 1; length <= 12; length++) {
            String name = "aZ09_:zAbCdE".substring(12 - length);
            TermDesk desk = Checks.desk("term x\nterm " + name + "\nalias longer_name1 " + name + "\nalias y x\ngene " + name);
            for (int i = -14; i <= 14; i++) {
                int due = i >= 0 && i < length ? name.charAt(i) : TermDesk.NONE;
                Checks.same("letter " + i + " of " + name, desk.letter(1, false, i), due);
                Checks.same("letter " + i + " of " + name, desk.letter(0, true, i), due);
                Checks.same("letter " + i + " of x", desk.letter(0, false, i), i == 0 ? 'x' : TermDesk.NONE);
            }
            for (int i : FAR) {
                Checks.same("letter " + i + " of " + name, desk.letter(1, false, i), TermDesk.NONE);
                Checks.same("letter " + i + " of " + name, desk.letter(0, true, i), TermDesk.NONE);
            }
        }
    }

    private static void wrongLetters() {
        Checks.sentence("letter: IndexOutOfBoundsException");
        TermDesk fresh = new TermDesk();
        Checks.refused("letter of no term", NO_SUCH, fresh, () -> fresh.letter(0, false, 0));
        Checks.refused("letter of no gene", NO_SUCH, fresh, () -> fresh.letter(0, true, 0));
        TermDesk desk = Checks.desk("term a\nalias b a\nterm c\ngene g\ngene h\ngene i\n");
        Checks.refused("a name is no term", NO_SUCH, desk, () -> desk.letter(2, false, 0));
        Checks.refused("behind the last gene", NO_SUCH, desk, () -> desk.letter(3, true, 0));
        Checks.refused("no letter of no term", NO_SUCH, desk, () -> desk.letter(2, false, -1));
        Checks.refused("no letter of no gene", NO_SUCH, desk, () -> desk.letter(3, true, 99));
        for (int far : FAR) {
            Checks.refused("letter(" + far + ", false, 0)", NO_SUCH, desk, () -> desk.letter(far, false, 0));
            Checks.refused("letter(" + far + ", true, 0)", NO_SUCH, desk, () -> desk.letter(far, true, 0));
        }
        Checks.same("the last gene", desk.letter(2, true, 0), (int) 'i');
    }

    private static void wrongPairs() {
        Checks.sentence("isAbove, isAt: IndexOutOfBoundsException: there is no such term, gene or row");
        TermDesk fresh = new TermDesk();
        Checks.refused("isAbove(0, 0) of a new object", NO_SUCH, fresh, () -> fresh.isAbove(0, 0));
        Checks.refused("isAt(0, 0) of a new object", NO_SUCH, fresh, () -> fresh.isAt(0, 0));
        TermDesk terms = Checks.desk("term a\nterm b");
        Checks.refused("isAt(0, 0) without genes", NO_SUCH, terms, () -> terms.isAt(0, 0));
        TermDesk genes = Checks.desk("gene a\ngene b");
        Checks.refused("isAt(0, 0) without terms", NO_SUCH, genes, () -> genes.isAt(0, 0));
        TermDesk desk = Checks.desk("term a\nterm b\nalias d b\ngene g\ngene h\ngene i\n");
        Checks.refused("isAbove(2, 0)", NO_SUCH, desk, () -> desk.isAbove(2, 0));
        Checks.refused("isAbove(0, 2)", NO_SUCH, desk, () -> desk.isAbove(0, 2));
        Checks.refused("isAbove(2, 2)", NO_SUCH, desk, () -> desk.isAbove(2, 2));
        Checks.refused("isAt(3, 0)", NO_SUCH, desk, () -> desk.isAt(3, 0));
        Checks.refused("isAt(2, 2)", NO_SUCH, desk, () -> desk.isAt(2, 2));
        Checks.same("the last of both", desk.isAt(2, 1), false);
        for (int far : FAR) {
            Checks.refused("isAbove(" + far + ", 0)", NO_SUCH, desk, () -> desk.isAbove(far, 0));
            Checks.refused("isAbove(0, " + far + ")", NO_SUCH, desk, () -> desk.isAbove(0, far));
            Checks.refused("isAbove(" + far + ", " + far + ")", NO_SUCH, desk, () -> desk.isAbove(far, far));
            Checks.refused("isAt(" + far + ", 0)", NO_SUCH, desk, () -> desk.isAt(far, 0));
            Checks.refused("isAt(0, " + far + ")", NO_SUCH, desk, () -> desk.isAt(0, far));
        }
    }
}
