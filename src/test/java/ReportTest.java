/** Promises 11 and 12: chances, the three corrections, the order and the cut-off of a report. */
public final class ReportTest {
    /** Six genes, three in the study; the chances are w 1, v and z 1/2, y 1/5, x 1/20; u is no candidate. */
    static final String STUDY = "gene a\ngene b\ngene c\ngene d\ngene e\ngene f\nstudy a\nstudy c\nstudy b\n"
        + "term w\nterm v\nterm z\nterm y\nterm x\nterm u\nisa x w\nisa u w\nnote e w\nnote f w\nnote d u\n"
        + "note a x\nnote b x\nnote c x\nnote a y\nnote b y\nnote a z\nnote b v\n";

    public static void main(String[] args) {
        allValues();
        orders();
        cutOffs();
        rows();
        wrongCalls();
        staysAsMade();
        oldOnesAndNoStudy();
        wholeStudy();
        equalChances();
        Checks.end();
    }

    private static String names(TermDesk desk) {
        StringBuilder names = new StringBuilder();
        for (int row = 0; row < desk.about(4); row++) {
            names.append(Checks.name(desk, desk.row(row, 0), false));
        }
        return names.toString();
    }

    private static String values(TermDesk desk, int value) {
        StringBuilder values = new StringBuilder();
        for (int row = 0; row < desk.about(4); row++) {
            values.append(row == 0 ? "" : " ").append(Checks.print(desk, row, value, TermDesk.NONE));
        }
        return values.toString();
    }

    private static void allValues() {
        TermDesk desk = Checks.desk(STUDY);
        Checks.same("candidates", desk.about(3), 5);
        Checks.same("rows", desk.report(0, 1, 1), 5);
        Checks.same("the order", names(desk), "xyvzw");
        Checks.same("chances", values(desk, 0), "1/20 1/5 1/2 1/2 1");
        Checks.same("times all", values(desk, 1), "1/4 1 1 1 1");
        Checks.same("step down", values(desk, 2), "1/4 4/5 1 1 1");
        Checks.same("step up", values(desk, 3), "1/4 1/2 5/8 5/8 1");
    }

    private static void orders() {
        TermDesk desk = Checks.desk(STUDY);
        desk.report(1, 1, 1);
        Checks.same("by value 1", names(desk), "xwvzy");
        Checks.same("all values go with it", values(desk, 0), "1/20 1 1/2 1/2 1/5");
        desk.report(2, 1, 1);
        Checks.same("by value 2", names(desk), "xywvz");
        desk.report(3, 1, 1);
        Checks.same("by value 3", names(desk), "xyvzw");
        Checks.same("all values go with it", values(desk, 2), "1/4 4/5 1 1 1");
    }

    private static void cutOffs() {
        TermDesk desk = Checks.desk(STUDY);
        int[][] due = {
            {0, 1, 20, 1}, {0, 1, 21, 0}, {0, 2, 41, 0}, {0, 1, 2, 4}, {0, 0, 1, 0}, {0, 5, 1, 5},
            {0, Integer.MAX_VALUE, 1, 5}, {0, Integer.MAX_VALUE, Integer.MAX_VALUE, 5},
            {0, Integer.MAX_VALUE - 1, Integer.MAX_VALUE, 4}, {0, 1, Integer.MAX_VALUE, 0},
            {0, 107374182, 2147483640, 1}, {0, 107374181, 2147483640, 0},
            {1, 1, 4, 1}, {1, 999, 1000, 1}, {1, 1, 1, 5}, {2, 4, 5, 2}, {2, 79, 100, 1}, {2, 1, 5, 0},
            {3, 5, 8, 4}, {3, 62, 100, 2}, {3, 1, 2, 2}, {3, 1, 4, 1}, {3, 24, 100, 0}};
        for (int[] one : due) {
            String call = "report(" + one[0] + ", " + one[1] + ", " + one[2] + ")";
            Checks.same(call, desk.report(one[0], one[1], one[2]), one[3]);
            Checks.same("rows of " + call, desk.about(4), one[3]);
        }
    }

    private static void rows() {
        TermDesk desk = Checks.desk(STUDY);
        desk.report(0, 1, 1);
        int[][] due = {{4, 3, 3, 3, 6}, {3, 2, 3, 2, 6}, {1, 1, 3, 1, 6}, {2, 1, 3, 1, 6}, {0, 3, 3, 6, 6}};
        for (int row = 0; row < due.length; row++) {
            for (int what = 0; what < 5; what++) {
                Checks.same("row(" + row + ", " + what + ")", desk.row(row, what), due[row][what]);
            }
        }
    }

    private static void wrongCalls() {
        TermDesk desk = Checks.desk(STUDY);
        Class<IndexOutOfBoundsException> none = IndexOutOfBoundsException.class;
        Class<IllegalArgumentException> wrong = IllegalArgumentException.class;
        Checks.refused("row(0, 0) of no report", none, desk, () -> desk.row(0, 0));
        desk.report(3, 5, 8);
        Checks.refused("row(4, 0)", none, desk, () -> desk.row(4, 0));
        Checks.refused("row(-1, 0)", none, desk, () -> desk.row(-1, 0));
        Checks.refused("row(4, 5)", none, desk, () -> desk.row(4, 5));
        Checks.refused("row(3, 5)", wrong, desk, () -> desk.row(3, 5));
        Checks.refused("row(0, -1)", wrong, desk, () -> desk.row(0, -1));
        Checks.refused("report(4, 1, 1)", wrong, desk, () -> desk.report(4, 1, 1));
        Checks.refused("report(-1, 1, 1)", wrong, desk, () -> desk.report(-1, 1, 1));
        Checks.refused("report(0, -1, 1)", wrong, desk, () -> desk.report(0, -1, 1));
        Checks.refused("report(0, 1, 0)", wrong, desk, () -> desk.report(0, 1, 0));
        Checks.refused("report(0, -1, -1)", wrong, desk, () -> desk.report(0, -1, -1));
        Checks.same("the report stays", names(desk), "xyvz");
    }

    private static void staysAsMade() {
        TermDesk desk = Checks.desk(STUDY);
        desk.report(0, 1, 2);
        Checks.run(desk, "gene more\nold x\nstudy d\nterm q\nnote more q\nnote f y\n");
        Checks.same("rows", desk.about(4), 4);
        Checks.same("candidates now", desk.about(3), 5);
        Checks.same("the order", names(desk), "xyvz");
        Checks.same("the values", values(desk, 3), "1/4 1/2 5/8 5/8");
        Checks.same("n of the time", desk.row(1, 2), 3);
        Checks.same("K of the time", desk.row(1, 3), 2);
        Checks.same("N of the time", desk.row(1, 4), 6);
        desk.report(0, 1, 1);
        Checks.same("the order now", names(desk), "wvzuy");
        Checks.same("n now", desk.row(0, 2), 4);
        Checks.same("N now", desk.row(0, 4), 7);
        Checks.same("chances now", values(desk, 0), "3/7 4/7 4/7 4/7 22/35");
    }

    private static void oldOnesAndNoStudy() {
        TermDesk desk = Checks.desk(STUDY + "old w\nold z\n");
        Checks.same("without the old ones", desk.report(0, 1, 1), 3);
        Checks.same("the order", names(desk), "xyv");
        Checks.same("m is less", values(desk, 1), "3/20 3/5 1");
        TermDesk none = Checks.desk(STUDY.replaceAll("study .\n", ""));
        Checks.same("no study", none.report(0, 1, 1), 0);
        Checks.same("no candidates", none.about(3), 0);
    }

    private static void wholeStudy() {
        TermDesk desk = Checks.desk(STUDY + "study d\nstudy e\nstudy f\n");
        Checks.same("all genes in the study", desk.report(0, 1, 1), 6);
        Checks.same("by numbers", names(desk), "wvzyxu");
        Checks.same("all certain", values(desk, 3), "1 1 1 1 1 1");
    }

    /** The corrections carry the greatest, or the least, over from one of the same chance to the other. */
    private static void equalChances() {
        TermDesk desk = Checks.desk("gene a\ngene b\ngene c\ngene d\ngene e\ngene f\nstudy a\n"
            + "term x\nterm y\nnote a y\nnote a x\n");
        desk.report(0, 1, 1);
        Checks.same("the order", names(desk), "xy");
        Checks.same("chances", values(desk, 0), "1/6 1/6");
        Checks.same("times all", values(desk, 1), "1/3 1/3");
        Checks.same("step down", values(desk, 2), "1/3 1/3");
        Checks.same("step up", values(desk, 3), "1/6 1/6");
    }
}
