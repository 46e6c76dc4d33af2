import java.math.BigInteger;
import java.util.List;

/** The edges that the document names for candidates, values and reports, and for promises 11 and 12. */
public final class ReportEdgeTest {
    private static final int MOST = Integer.MAX_VALUE;
    private static final int[] FAR = {Integer.MIN_VALUE, -256, -1, 256, 65536, Integer.MAX_VALUE};
    private static final Class<IndexOutOfBoundsException> NO_SUCH = IndexOutOfBoundsException.class;
    private static final Class<IllegalArgumentException> WRONG = IllegalArgumentException.class;

    public static void main(String[] args) {
        smallChances();
        chancesBesideOthers();
        oneCandidate();
        capped();
        carriedOn();
        equalByNumbers();
        cutOffsJustMet();
        cutOffsOfZeroAndMore();
        greatestCutOffs();
        noRows();
        mostRows();
        stays();
        madeAnew();
        wrongReports();
        rowsOfReport();
        wrongRows();
        Checks.end();
    }

    /** Counted one by one: of all choices of n among N genes, those with at least k of the first K. */
    private static String counted(int genes, int studied, int size, int hits) {
        int all = 0;
        int some = 0;
        for (int choice = 0; choice < 1 << genes; choice++) {
            if (Integer.bitCount(choice) == studied) {
                all++;
                some += Integer.bitCount(choice & (1 << size) - 1) >= hits ? 1 : 0;
            }
        }
        int common = BigInteger.valueOf(some).gcd(BigInteger.valueOf(all)).intValue();
        return all == common ? "" + some / common : some / common + "/" + all / common;
    }

    private static void smallChances() {
        Checks.sentence("The CHANCE is that of n genes taken from N at least k are among K");
        for (int genes = 1; genes <= 8; genes++) {
            for (int studied = 1; studied <= genes; studied++) {
                for (int size = 1; size <= genes; size++) {
                    for (int hits = Math.max(1, size + studied - genes); hits <= Math.min(size, studied); hits++) {
                        TermDesk desk = PrintTest.single(genes, studied, size, hits);
                        String what = "n " + studied + " of N " + genes + ", k " + hits + " of K " + size;
                        Checks.same("rows with " + what, desk.about(4), 1);
                        Checks.same("the row with " + what, rowOf(desk, 0), "0 " + hits + " " + studied + " " + size + " " + genes);
                        Checks.same(what, Checks.print(desk, 0, 0, TermDesk.NONE), counted(genes, studied, size, hits));
                    }
                }
            }
        }
    }

    /** Each K with each k in one report, so that terms share the one and not the other. */
    private static void chancesBesideOthers() {
        Checks.sentence("K how many are at the term, k how many of these in the study (of each term its own)");
        StringBuilder text = new StringBuilder("gene 0\ngene 1\ngene 2\ngene 3\ngene 4\ngene 5\ngene 6\ngene 7\n"
            + "study 0\nstudy 1\nstudy 2\nstudy 3\n");
        for (int size = 8; size >= 1; size--) {
            for (int hits = Math.max(1, size - 4); hits <= Math.min(size, 4); hits++) {
                String term = "K" + size + "k" + hits;
                text.append("term ").append(term).append('\n');
                for (int i = 0; i < size; i++) {
                    text.append("note ").append(i < hits ? i : 4 + i - hits).append(' ').append(term).append('\n');
                }
            }
        }
        TermDesk desk = Checks.desk(text.toString());
        for (int value = 0; value < 4; value++) {
            Checks.same("rows", desk.report(value, 1, 1), desk.about(3));
            for (int row = 0; row < desk.about(4); row++) {
                String name = Checks.name(desk, desk.row(row, 0), false);
                Checks.same("the row of " + name, "K" + desk.row(row, 3) + "k" + desk.row(row, 1), name);
                String due = counted(8, 4, name.charAt(1) - '0', name.charAt(3) - '0');
                Checks.same("the chance of " + name, Checks.print(desk, row, 0, TermDesk.NONE), due);
            }
        }
    }

    private static String rowOf(TermDesk desk, int row) {
        StringBuilder all = new StringBuilder();
        for (int what = 0; what < 5; what++) {
            all.append(what == 0 ? "" : " ").append(desk.row(row, what));
        }
        return all.toString();
    }

    private static String values(TermDesk desk, int value) {
        StringBuilder values = new StringBuilder();
        for (int row = 0; row < desk.about(4); row++) {
            values.append(row == 0 ? "" : " ").append(Checks.print(desk, row, value, TermDesk.NONE));
        }
        return values.toString();
    }

    private static String terms(TermDesk desk) {
        StringBuilder terms = new StringBuilder();
        for (int row = 0; row < desk.about(4); row++) {
            terms.append(row == 0 ? "" : " ").append(desk.row(row, 0));
        }
        return terms.toString();
    }

    private static void oneCandidate() {
        Checks.sentence("With m candidates (m = 1: all four values are the chance)");
        TermDesk desk = PrintTest.single(7, 3, 2, 2);
        for (int value = 0; value < 4; value++) {
            Checks.same("rows by value " + value, desk.report(value, 1, 1), 1);
            Checks.same("value " + value, Checks.print(desk, 0, value, TermDesk.NONE), "1/7");
        }
    }

    /** One gene is in the study, of so many; the terms have it and so many genes in all. */
    private static TermDesk oneStudied(int genes, int... sizes) {
        StringBuilder text = new StringBuilder();
        for (int i = 0; i < genes; i++) {
            text.append("gene ").append(i).append('\n');
        }
        text.append("study 0\n");
        for (int term = 0; term < sizes.length; term++) {
            text.append("term ").append(term).append('\n');
            for (int gene = 0; gene < sizes[term]; gene++) {
                text.append("note ").append(gene).append(' ').append(term).append('\n');
            }
        }
        TermDesk desk = Checks.desk(text.toString());
        desk.report(0, 1, 1);
        return desk;
    }

    private static void capped() {
        Checks.sentence("1 the lesser of 1 and m p (just 1, a little less, more)");
        TermDesk desk = oneStudied(12, 4, 3, 5);
        Checks.same("chances", values(desk, 0), "1/4 1/3 5/12");
        Checks.same("times all", values(desk, 1), "3/4 1 1");
        Checks.same("step down", values(desk, 2), "3/4 3/4 3/4");
        Checks.same("step up", values(desk, 3), "5/12 5/12 5/12");
        TermDesk sure = oneStudied(3, 3, 3, 3, 2);
        Checks.same("chances", values(sure, 0), "2/3 1 1 1");
        Checks.same("times all", values(sure, 1), "1 1 1 1");
        Checks.same("step down", values(sure, 2), "1 1 1 1");
        Checks.same("step up", values(sure, 3), "1 1 1 1");
        TermDesk few = oneStudied(200, 1, 199, 200);
        Checks.same("times all", values(few, 1), "3/200 1 1");
        Checks.same("step down", values(few, 2), "3/200 1 1");
        Checks.same("step up", values(few, 3), "3/200 1 1");
    }

    private static void carriedOn() {
        Checks.sentence("2 the greatest .. for i up to j; 3 the least .. for i from j on");
        TermDesk desk = oneStudied(100, 11, 10, 12, 10, 13, 30);
        Checks.same("the order", terms(desk), "1 3 0 2 4 5");
        Checks.same("chances", values(desk, 0), "1/10 1/10 11/100 3/25 13/100 3/10");
        Checks.same("times all", values(desk, 1), "3/5 3/5 33/50 18/25 39/50 1");
        Checks.same("step down", values(desk, 2), "3/5 3/5 3/5 3/5 3/5 3/5");
        Checks.same("step up", values(desk, 3), "39/250 39/250 39/250 39/250 39/250 3/10");
        TermDesk steps = oneStudied(100, 1, 2, 3, 50, 50);
        Checks.same("step down", values(steps, 2), "1/20 2/25 9/100 1 1");
        Checks.same("step up", values(steps, 3), "1/20 1/20 1/20 1/2 1/2");
    }

    private static void equalByNumbers() {
        Checks.sentence("by that value, equal ones by their numbers");
        TermDesk desk = oneStudied(100, 11, 10, 12, 10, 13, 30);
        String[] due = {"1 3 0 2 4 5", "1 3 0 2 4 5", "0 1 2 3 4 5", "0 1 2 3 4 5"};
        for (int value = 0; value < 4; value++) {
            desk.report(value, 1, 1);
            Checks.same("by value " + value, terms(desk), due[value]);
        }
        TermDesk same = oneStudied(9, 3, 3, 3, 3, 3);
        for (int value = 0; value < 4; value++) {
            same.report(value, 1, 1);
            Checks.same("all equal by value " + value, terms(same), "0 1 2 3 4");
        }
        TermDesk falling = oneStudied(9, 5, 4, 3, 2, 1);
        String[] order = {"4 3 2 1 0", "4 0 1 2 3", "4 3 0 1 2", "0 1 2 3 4"};
        for (int value = 0; value < 4; value++) {
            falling.report(value, 1, 1);
            Checks.same("falling by value " + value, terms(falling), order[value]);
        }
    }

    private static void cutOffsJustMet() {
        Checks.sentence("the candidates for which it is at most a cut-off (just met, a little less)");
        for (int genes = 1; genes <= 200; genes += 7) {
            for (int size = 1; size <= genes; size += 5) {
                TermDesk desk = oneStudied(genes, size);
                int times = MOST / genes;
                Checks.same("just " + size + "/" + genes, desk.report(0, size, genes), 1);
                Checks.same("less than " + size + "/" + genes, desk.report(0, size - 1, genes), 0);
                Checks.same("just, in great numbers", desk.report(3, size * times, genes * times), 1);
                Checks.same("less, in great numbers", desk.report(3, size * times - 1, genes * times), 0);
                Checks.same("less, over one more", desk.report(1, size, genes + 1), 0);
            }
        }
    }

    private static void cutOffsOfZeroAndMore() {
        Checks.sentence("report: the cut-off a / b (0, 1, more than 1, the greatest numbers)");
        TermDesk desk = oneStudied(5, 1, 5, 3);
        int[][] due = {{0, 1, 0}, {0, MOST, 0}, {1, 1, 3}, {2, 1, 3}, {MOST, 1, 3}, {MOST, MOST, 3}, {MOST - 1, MOST, 2}, {1, MOST, 0}};
        for (int[] one : due) {
            Checks.same("report(0, " + one[0] + ", " + one[1] + ")", desk.report(0, one[0], one[1]), one[2]);
            Checks.same("about(4)", desk.about(4), one[2]);
        }
        for (int value = 0; value < 4; value++) {
            Checks.same("all by value " + value, desk.report(value, 1, 1), 3);
            Checks.same("none by value " + value, desk.report(value, 0, 1), 0);
        }
    }

    /** 200 terms of rising sizes over 200 genes, 100 of them in the study: the greatest numbers that there are. */
    static String fullBoard() {
        StringBuilder text = new StringBuilder();
        for (int i = 0; i < 200; i++) {
            text.append("gene ").append(i).append('\n');
            text.append(i % 2 == 0 ? "study " + i + "\n" : "").append("term ").append(i).append('\n');
        }
        for (int i = 0; i < 199; i++) {
            text.append("note ").append(i * 77 % 200).append(' ').append(i).append('\n');
            text.append("isa ").append(i).append(' ').append(i + 1).append('\n');
        }
        return text + "note 0 199\n";
    }

    private static void greatestCutOffs() {
        Checks.sentence("by exact chances (of the greatest numbers)");
        TermDesk desk = Checks.desk(fullBoard());
        Model model = new Model();
        model.run(fullBoard());
        List<Model.Row> rows = model.ranked();
        for (int value = 0; value < 4; value++) {
            for (Model.Row row : rows) {
                BigInteger scaled = row.values()[value].top().multiply(BigInteger.valueOf(MOST));
                int a = scaled.divide(row.values()[value].bottom()).intValue();
                within(desk, rows, value, a, MOST);
                within(desk, rows, value, Math.max(0, a - 1), MOST);
                within(desk, rows, value, a < MOST ? a + 1 : a, MOST);
                within(desk, rows, value, MOST - a, MOST - 1);
            }
        }
    }

    private static void within(TermDesk desk, List<Model.Row> rows, int value, int a, int b) {
        Model.Fraction cut = Model.Fraction.of(BigInteger.valueOf(a), BigInteger.valueOf(b));
        long due = rows.stream().filter(row -> row.values()[value].compareTo(cut) <= 0).count();
        Checks.same("report(" + value + ", " + a + ", " + b + ")", desk.report(value, a, b), (int) due);
    }

    private static void noRows() {
        Checks.sentence("A new object: an empty report; a report without candidates");
        TermDesk fresh = new TermDesk();
        Checks.refused("row(0, 0) of a new object", NO_SUCH, fresh, () -> fresh.row(0, 0));
        for (String text : new String[] {"", "term a", "gene g\nstudy g", "term a\ngene g\nnote g a", "term a\ngene g\nstudy g",
            "term a\ngene g\nnote g a\nstudy g\nold a", "term a\ngene g\ngene h\nnote g a\nstudy h"}) {
            TermDesk desk = Checks.desk(text);
            for (int value = 0; value < 4; value++) {
                Checks.same("rows of " + text, desk.report(value, MOST, 1), 0);
            }
            Checks.refused("row(0, 0) of " + text, NO_SUCH, desk, () -> desk.row(0, 0));
            Checks.refused("print(0, 0, 0) of " + text, NO_SUCH, desk, () -> desk.print(0, 0, 0));
        }
    }

    private static void mostRows() {
        Checks.sentence("at most 200 each (all of them rows)");
        TermDesk desk = Checks.desk(fullBoard());
        for (int value = 3; value >= 0; value--) {
            Checks.same("rows by value " + value, desk.report(value, 1, 1), 200);
        }
        Checks.same("the last row's term is one", desk.row(199, 0) >= 0, true);
        Checks.refused("row(200, 0)", NO_SUCH, desk, () -> desk.row(200, 0));
        Checks.refused("print(200, 0, 0)", NO_SUCH, desk, () -> desk.print(200, 0, 0));
    }

    private static String whole(TermDesk desk) {
        StringBuilder all = new StringBuilder();
        for (int row = 0; row < desk.about(4); row++) {
            all.append(rowOf(desk, row)).append(';');
        }
        return all + values(desk, 0) + ";" + values(desk, 1) + ";" + values(desk, 2) + ";" + values(desk, 3);
    }

    private static void stays() {
        Checks.sentence("it stays as it was made, with all four values");
        TermDesk desk = Checks.desk(ReportTest.STUDY);
        desk.report(2, 1, 1);
        String made = whole(desk);
        String[] later = {"gene m", "study m\nstudy d", "note m x\nnote m y", "term n\nnote a n", "isa v z", "old x", "old y\nold w",
            "alias xx z", "term n", "nonsense", ""};
        for (String text : later) {
            Checks.feed(desk, text);
            Checks.same("behind feeding " + text, whole(desk), made);
            desk.run();
            Checks.same("behind running " + text, whole(desk), made);
        }
        Checks.refused("a wrong report", WRONG, desk, () -> desk.report(0, -1, 1));
        Checks.same("behind a wrong report", whole(desk), made);
        desk.clear();
        Checks.same("behind clear()", desk.about(4), 0);
        Checks.refused("row(0, 0) behind clear()", NO_SUCH, desk, () -> desk.row(0, 0));
    }

    private static void madeAnew() {
        Checks.sentence("report: The report of a value with the cut-off a / b (of what there is then)");
        TermDesk desk = oneStudied(4, 1, 2);
        Checks.same("the chances", values(desk, 0), "1/4 1/2");
        Checks.run(desk, "gene more");
        desk.report(0, 1, 1);
        Checks.same("a gene more", values(desk, 0), "1/5 2/5");
        Checks.run(desk, "study 1");
        desk.report(0, 1, 1);
        Checks.same("one more in the study", whole(desk).substring(0, 20), "1 2 2 2 5;0 1 2 1 5;");
        Checks.run(desk, "old 1\nterm bad-");
        desk.report(0, 1, 1);
        Checks.same("an old one less, behind a fault", values(desk, 1), "2/5");
        Checks.same("none is small enough", desk.report(0, 1, 3), 0);
        Checks.refused("row(0, 0) behind it", NO_SUCH, desk, () -> desk.row(0, 0));
        Checks.same("one is again", desk.report(0, 2, 5), 1);
        Checks.feed(desk, "old 0");
        Checks.same("a text that was not run does not count", desk.report(0, 2, 5), 1);
        desk.run();
        Checks.same("it was run", desk.report(0, 2, 5), 0);
    }

    private static void wrongReports() {
        Checks.sentence("report: IllegalArgumentException: value is not 0 .. 3, a is below 0, or b below 1");
        TermDesk desk = Checks.desk(ReportTest.STUDY);
        desk.report(3, 5, 8);
        desk.print(1, 3, 5);
        for (int value : new int[] {-1, 4, 5, 256, Integer.MIN_VALUE, MOST}) {
            Checks.refused("report(" + value + ", 1, 1)", WRONG, desk, () -> desk.report(value, 1, 1));
            Checks.refused("report(" + value + ", -1, 0)", WRONG, desk, () -> desk.report(value, -1, 0));
        }
        for (int value = 0; value < 4; value++) {
            int right = value;
            for (int a : new int[] {-1, -2, Integer.MIN_VALUE}) {
                Checks.refused("report(" + value + ", " + a + ", 1)", WRONG, desk, () -> desk.report(right, a, 1));
            }
            for (int b : new int[] {0, -1, -2, Integer.MIN_VALUE}) {
                Checks.refused("report(" + value + ", 0, " + b + ")", WRONG, desk, () -> desk.report(right, 0, b));
                Checks.refused("report(" + value + ", -1, " + b + ")", WRONG, desk, () -> desk.report(right, -1, b));
            }
        }
        Checks.same("the report stays", desk.about(4), 4);
        Checks.same("the least right cut-off", desk.report(0, 0, 1), 0);
        TermDesk fresh = new TermDesk();
        Checks.refused("report(4, 1, 1) of a new object", WRONG, fresh, () -> fresh.report(4, 1, 1));
    }

    private static void rowsOfReport() {
        Checks.sentence("row: its term (what = 0), k (1), n (2), K (3), N (4)");
        TermDesk desk = PrintTest.single(9, 5, 4, 3);
        Checks.same("the row", rowOf(desk, 0), "0 3 5 4 9");
        TermDesk full = PrintTest.single(200, 200, 200, 200);
        Checks.same("the row of all", rowOf(full, 0), "0 200 200 200 200");
        Checks.same("its chance", Checks.print(full, 0, 0, TermDesk.NONE), "1");
        TermDesk one = PrintTest.single(1, 1, 1, 1);
        Checks.same("the row of one", rowOf(one, 0), "0 1 1 1 1");
        Checks.same("its chance", Checks.print(one, 0, 0, TermDesk.NONE), "1");
    }

    private static void wrongRows() {
        Checks.sentence("row: IndexOutOfBoundsException; IllegalArgumentException: what is none of these");
        TermDesk desk = Checks.desk(ReportTest.STUDY);
        desk.report(0, 1, 2);
        for (int what : new int[] {0, 4, 5, -1}) {
            Checks.refused("row(4, " + what + ")", NO_SUCH, desk, () -> desk.row(4, what));
            Checks.refused("row(-1, " + what + ")", NO_SUCH, desk, () -> desk.row(-1, what));
        }
        Checks.refused("row(3, 5)", WRONG, desk, () -> desk.row(3, 5));
        for (int far : FAR) {
            Checks.refused("row(" + far + ", 0)", NO_SUCH, desk, () -> desk.row(far, 0));
            Checks.refused("row(0, " + far + ")", WRONG, desk, () -> desk.row(0, far));
            Checks.refused("row(" + far + ", " + far + ")", NO_SUCH, desk, () -> desk.row(far, far));
        }
        Checks.same("the last row", desk.row(3, 0), 2);
    }
}
