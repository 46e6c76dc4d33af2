/** Promises 13 and 14: values printed, rounded or just, and the characters of it. */
public final class PrintTest {
    public static void main(String[] args) {
        just();
        rounded();
        carries();
        thirds();
        greatest();
        characters();
        wrongCalls();
        Checks.end();
    }

    private static TermDesk desk() {
        TermDesk desk = Checks.desk(ReportTest.STUDY);
        desk.report(0, 1, 1);
        return desk;
    }

    /** One term, of whose genes so many are in the study. */
    static TermDesk single(int genes, int studied, int size, int hits) {
        StringBuilder text = new StringBuilder("term t\n");
        for (int i = 0; i < genes; i++) {
            text.append("gene ").append(i).append('\n');
            if (i < studied) {
                text.append("study ").append(i).append('\n');
            }
            if (i < hits || i >= studied && i < studied + size - hits) {
                text.append("note ").append(i).append(" t\n");
            }
        }
        TermDesk desk = Checks.desk(text.toString());
        desk.report(0, 1, 1);
        return desk;
    }

    private static void just() {
        TermDesk desk = desk();
        Checks.same("a chance", Checks.print(desk, 0, 0, TermDesk.NONE), "1/20");
        Checks.same("value 3", Checks.print(desk, 2, 3, TermDesk.NONE), "5/8");
        Checks.same("a whole one", Checks.print(desk, 4, 0, TermDesk.NONE), "1");
        Checks.same("53/106", Checks.print(single(106, 1, 53, 1), 0, 0, TermDesk.NONE), "1/2");
        Checks.same("199 of C(199, 1)", Checks.print(single(199, 1, 199, 1), 0, 0, TermDesk.NONE), "1");
        Checks.same("a capped one", Checks.print(desk, 1, 1, TermDesk.NONE), "1");
    }

    private static void rounded() {
        TermDesk desk = desk();
        Checks.same("1/20 to 0", Checks.print(desk, 0, 0, 0), "0");
        Checks.same("1/20 to 1, a half to even", Checks.print(desk, 0, 0, 1), "0.0");
        Checks.same("1/20 to 2", Checks.print(desk, 0, 0, 2), "0.05");
        Checks.same("1/20 to 40", Checks.print(desk, 0, 0, 40), "0.05" + "0".repeat(38));
        Checks.same("1/4 to 1, a half to even", Checks.print(desk, 0, 3, 1), "0.2");
        Checks.same("1/2 to 0, a half to even", Checks.print(desk, 2, 0, 0), "0");
        Checks.same("5/8 to 0", Checks.print(desk, 2, 3, 0), "1");
        Checks.same("5/8 to 1", Checks.print(desk, 2, 3, 1), "0.6");
        Checks.same("5/8 to 2, a half to even", Checks.print(desk, 2, 3, 2), "0.62");
        Checks.same("5/8 to 3", Checks.print(desk, 2, 3, 3), "0.625");
        Checks.same("1 to 0", Checks.print(desk, 4, 0, 0), "1");
        Checks.same("1 to 3", Checks.print(desk, 4, 0, 3), "1.000");
        Checks.same("3/4 to 1, a half to even", Checks.print(single(4, 1, 3, 1), 0, 0, 1), "0.8");
        Checks.same("7/8 to 2, a half to even", Checks.print(single(8, 1, 7, 1), 0, 0, 2), "0.88");
        Checks.same("1/8 to 2, a half to even", Checks.print(single(8, 1, 1, 1), 0, 0, 2), "0.12");
    }

    private static void carries() {
        TermDesk desk = single(6, 3, 3, 1);
        Checks.same("19/20", Checks.print(desk, 0, 0, TermDesk.NONE), "19/20");
        Checks.same("19/20 to 0", Checks.print(desk, 0, 0, 0), "1");
        Checks.same("19/20 to 1, a half to even", Checks.print(desk, 0, 0, 1), "1.0");
        Checks.same("19/20 to 2", Checks.print(desk, 0, 0, 2), "0.95");
        TermDesk near = single(200, 1, 199, 1);
        Checks.same("199/200 to 2, a half to even", Checks.print(near, 0, 0, 2), "1.00");
        Checks.same("199/200 to 3", Checks.print(near, 0, 0, 3), "0.995");
        TermDesk tenths = single(199, 1, 139, 1);
        Checks.same("139/199 to 3", Checks.print(tenths, 0, 0, 3), "0.698");
        Checks.same("139/199 to 1", Checks.print(tenths, 0, 0, 1), "0.7");
    }

    private static void thirds() {
        Checks.same("1/3", Checks.print(single(3, 1, 1, 1), 0, 0, 40), "0." + "3".repeat(40));
        Checks.same("2/3", Checks.print(single(3, 1, 2, 1), 0, 0, 40), "0." + "6".repeat(39) + "7");
        Checks.same("2/3 to 0", Checks.print(single(3, 1, 2, 1), 0, 0, 0), "1");
    }

    private static void greatest() {
        String all = "90548514656103281165404177077484163874504589675413336841320";
        TermDesk desk = single(200, 100, 100, 100);
        Checks.same("one of C(200, 100)", Checks.print(desk, 0, 0, TermDesk.NONE), "1/" + all);
        Checks.same("to 40", Checks.print(desk, 0, 0, 40), "0." + "0".repeat(40));
        Checks.same("no cut-off is that small", desk.report(0, 1, Integer.MAX_VALUE), 1);
        TermDesk most = single(200, 100, 100, 1);
        String less = "90548514656103281165404177077484163874504589675413336841319";
        Checks.same("all but one", Checks.print(most, 0, 0, TermDesk.NONE), less + "/" + all);
        Checks.same("to 40", Checks.print(most, 0, 0, 40), "1." + "0".repeat(40));
        Checks.same("at most 1", most.report(3, Integer.MAX_VALUE, Integer.MAX_VALUE), 1);
        Checks.same("more than this", most.report(3, Integer.MAX_VALUE - 1, Integer.MAX_VALUE), 0);
    }

    private static void characters() {
        TermDesk desk = desk();
        Checks.same("nothing printed", desk.character(0), TermDesk.NONE);
        Checks.same("how many", desk.print(0, 0, TermDesk.NONE), 4);
        int[] due = {'1', '/', '2', '0', -1, -1};
        for (int i = 0; i < due.length; i++) {
            Checks.same("character(" + i + ")", desk.character(i), due[i]);
        }
        Checks.same("below 0", desk.character(-1), TermDesk.NONE);
        Checks.same("the least", desk.character(Integer.MIN_VALUE), TermDesk.NONE);
        Checks.same("the greatest", desk.character(Integer.MAX_VALUE), TermDesk.NONE);
        desk.report(0, 0, 1);
        Checks.run(desk, "term q");
        Checks.same("it stays", Checks.printed(desk), "1/20");
        desk.report(0, 1, 1);
        Checks.same("a shorter one", desk.print(4, 0, 0), 1);
        Checks.same("nothing is left behind it", Checks.printed(desk), "1");
    }

    private static void wrongCalls() {
        TermDesk desk = desk();
        desk.print(0, 0, TermDesk.NONE);
        Class<IndexOutOfBoundsException> none = IndexOutOfBoundsException.class;
        Class<IllegalArgumentException> wrong = IllegalArgumentException.class;
        Checks.refused("print(5, 0, 0)", none, desk, () -> desk.print(5, 0, 0));
        Checks.refused("print(-1, 0, 0)", none, desk, () -> desk.print(-1, 0, 0));
        Checks.refused("print(5, 4, 41)", none, desk, () -> desk.print(5, 4, 41));
        Checks.refused("print(0, 4, 0)", wrong, desk, () -> desk.print(0, 4, 0));
        Checks.refused("print(0, -1, 0)", wrong, desk, () -> desk.print(0, -1, 0));
        Checks.refused("print(0, 0, 41)", wrong, desk, () -> desk.print(0, 0, 41));
        Checks.refused("print(0, 0, -2)", wrong, desk, () -> desk.print(0, 0, -2));
        Checks.same("what was printed stays", Checks.printed(desk), "1/20");
    }
}
