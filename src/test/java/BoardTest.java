/** Promises 6 to 10: what the terms and genes answer. */
public final class BoardTest {
    /** Above: a < b < d, a < c < d, d < e (isa, part and an alias); f stands alone. */
    private static final String TERMS = "term a\nterm b\nterm c\nterm d\nterm e\nterm f\nalias dd d\nisa a b\npart a c\n"
        + "isa b d\nisa c dd\npart dd e\nisa a e\n";
    private static final String GENES = "gene g\ngene h\ngene i\ngene j\nnote g a\nnote h a\nnote h c\nnote i e\n"
        + "not j f\nstudy h\nstudy j\n";

    public static void main(String[] args) {
        about();
        terms();
        wrongTerms();
        linksBehindNotes();
        oldTerms();
        chain();
        letters();
        above();
        at();
        Checks.end();
    }

    private static void about() {
        TermDesk desk = Checks.desk(TERMS + GENES);
        int[] due = {6, 4, 2, 5, 0, 6, 4, 7};
        for (int what = 0; what < due.length; what++) {
            Checks.same("about(" + what + ")", desk.about(what), due[what]);
        }
        desk.report(0, 1, 2);
        Checks.same("rows", desk.about(4), desk.report(0, 1, 2));
        desk.report(0, 1, 1);
        Checks.same("rows", desk.about(4), 5);
        Class<IllegalArgumentException> refused = IllegalArgumentException.class;
        Checks.refused("about(8)", refused, desk, () -> desk.about(8));
        Checks.refused("about(-1)", refused, desk, () -> desk.about(-1));
        Checks.refused("about(MIN)", refused, desk, () -> desk.about(Integer.MIN_VALUE));
    }

    private static void terms() {
        TermDesk desk = Checks.desk(TERMS + GENES);
        int[][] due = {
            {3, 4, 0, 2, 1, 0, 3}, {1, 2, 1, 2, 1, 0, 2}, {1, 2, 1, 2, 1, 0, 2},
            {1, 1, 3, 2, 1, 0, 1}, {0, 0, 4, 3, 1, 0, 0}, {0, 0, 0, 0, 0, 0, 0}};
        for (int term = 0; term < due.length; term++) {
            for (int what = 0; what < 7; what++) {
                Checks.same("term(" + term + ", " + what + ")", desk.term(term, what), due[term][what]);
            }
        }
    }

    private static void wrongTerms() {
        TermDesk desk = Checks.desk(TERMS);
        Class<IndexOutOfBoundsException> none = IndexOutOfBoundsException.class;
        Checks.refused("term(6, 0)", none, desk, () -> desk.term(6, 0));
        Checks.refused("term(-1, 0)", none, desk, () -> desk.term(-1, 0));
        Checks.refused("term(6, 7)", none, desk, () -> desk.term(6, 7));
        Checks.refused("term(MAX, -1)", none, desk, () -> desk.term(Integer.MAX_VALUE, -1));
        Checks.refused("term(5, 7)", IllegalArgumentException.class, desk, () -> desk.term(5, 7));
        Checks.refused("term(0, -1)", IllegalArgumentException.class, desk, () -> desk.term(0, -1));
    }

    /** What lies above and at a term is the same whether notes or links came first. */
    private static void linksBehindNotes() {
        TermDesk desk = Checks.desk("term a\nterm b\nterm c\nterm d\ngene g\ngene h\nnote g a\nnote h c\nisa c d\nisa a b\n");
        Checks.same("before", desk.isAt(0, 3), false);
        Checks.run(desk, "isa b c");
        Checks.same("the lowest's gene at the highest", desk.isAt(0, 3), true);
        Checks.same("not the other way", desk.isAt(1, 1), false);
        Checks.same("the highest above the lowest", desk.isAbove(3, 0), true);
        Checks.same("the longest way", desk.term(0, 6), 3);
        Checks.same("below the highest", desk.term(3, 2), 3);
    }

    private static void oldTerms() {
        TermDesk desk = Checks.desk(TERMS + GENES + "old d\nold a");
        Checks.same("old", desk.term(3, 5), 1);
        Checks.same("its links stay", desk.term(0, 1), 4);
        Checks.same("its notes stay", desk.term(4, 3), 3);
        Checks.same("the way through it", desk.term(0, 6), 3);
        Checks.same("candidates", desk.about(3), 3);
        Checks.same("above while old", desk.isAbove(3, 0), true);
    }

    private static void chain() {
        StringBuilder text = new StringBuilder("term t0\n");
        for (int i = 1; i < 200; i++) {
            text.append("term t").append(i).append("\nisa t").append(i).append(" t").append(i - 1).append('\n');
        }
        TermDesk desk = Checks.desk(text + "gene g\nnote g t199\nstudy g");
        Checks.same("the longest way of all", desk.term(199, 6), 199);
        Checks.same("above the lowest", desk.term(199, 1), 199);
        Checks.same("below the highest", desk.term(0, 2), 199);
        Checks.same("in the middle", desk.term(64, 2), 135);
        Checks.same("the gene at the highest", desk.isAt(0, 0), true);
        Checks.same("candidates", desk.about(3), 200);
    }

    private static void letters() {
        TermDesk desk = Checks.desk("term abcdefghijkl\nterm Z\nalias _0 abcdefghijkl\ngene a:_9AZz\ngene abcdefg\n");
        Checks.same("a name of 12 letters", Checks.name(desk, 0, false), "abcdefghijkl");
        Checks.same("a name of 1 letter", Checks.name(desk, 1, false), "Z");
        Checks.same("a gene's name", Checks.name(desk, 0, true), "a:_9AZz");
        Checks.same("a gene's name of 7 letters", Checks.name(desk, 1, true), "abcdefg");
        int[] outside = {-1, -2, -3, -4, -5, -6, -7, -8, -9, -12, 12, 13, 64, Integer.MAX_VALUE, Integer.MIN_VALUE};
        for (int i : outside) {
            Checks.same("letter " + i, desk.letter(0, false, i), TermDesk.NONE);
        }
        Checks.same("behind the end", desk.letter(1, false, 1), TermDesk.NONE);
        Checks.same("behind the end", desk.letter(1, false, 6), TermDesk.NONE);
        Class<IndexOutOfBoundsException> none = IndexOutOfBoundsException.class;
        Checks.refused("no such term", none, desk, () -> desk.letter(2, false, 0));
        Checks.refused("no such gene", none, desk, () -> desk.letter(2, true, 0));
        Checks.refused("below 0", none, desk, () -> desk.letter(-1, false, 0));
        Checks.refused("below 0", none, desk, () -> desk.letter(-1, true, -1));
        TermDesk terms = Checks.desk("term a");
        Checks.refused("no gene", none, terms, () -> terms.letter(0, true, 0));
        TermDesk genes = Checks.desk("gene a");
        Checks.refused("no term", none, genes, () -> genes.letter(0, false, 0));
    }

    private static void above() {
        TermDesk desk = Checks.desk(TERMS);
        String[] due = {"......", "a.....", "a.....", "abc...", "abcd..", "......"};
        for (int a = 0; a < 6; a++) {
            for (int b = 0; b < 6; b++) {
                Checks.same("isAbove(" + a + ", " + b + ")", desk.isAbove(a, b), due[a].charAt(b) != '.');
            }
        }
        Class<IndexOutOfBoundsException> none = IndexOutOfBoundsException.class;
        Checks.refused("isAbove(6, 0)", none, desk, () -> desk.isAbove(6, 0));
        Checks.refused("isAbove(0, 6)", none, desk, () -> desk.isAbove(0, 6));
        Checks.refused("isAbove(-1, 0)", none, desk, () -> desk.isAbove(-1, 0));
        Checks.refused("isAbove(0, -1)", none, desk, () -> desk.isAbove(0, -1));
    }

    private static void at() {
        TermDesk desk = Checks.desk(TERMS + GENES);
        String[] due = {"abcde.", "abcde.", "....e.", "......"};
        for (int gene = 0; gene < 4; gene++) {
            for (int term = 0; term < 6; term++) {
                Checks.same("isAt(" + gene + ", " + term + ")", desk.isAt(gene, term), due[gene].charAt(term) != '.');
            }
        }
        Class<IndexOutOfBoundsException> none = IndexOutOfBoundsException.class;
        Checks.refused("isAt(4, 0)", none, desk, () -> desk.isAt(4, 0));
        Checks.refused("isAt(0, 6)", none, desk, () -> desk.isAt(0, 6));
        Checks.refused("isAt(-1, 0)", none, desk, () -> desk.isAt(-1, 0));
        Checks.refused("isAt(0, -1)", none, desk, () -> desk.isAt(0, -1));
    }
}
