/** Promises 1 and 15. */
public final class NewAndClearTest {
    private static final String EMPTY = "text 0 printed  fault 0 -1 about 0 0 0 0 0 0 0 0";

    public static void main(String[] args) {
        newObject();
        clearedObject();
        clearedAfterFault();
        clearedAgain();
        Checks.end();
    }

    private static void newObject() {
        TermDesk desk = new TermDesk();
        Checks.same("a new object", Checks.state(desk), EMPTY);
        Checks.same("its run", desk.run(), 0);
        Checks.same("its report", desk.report(3, 1, 1), 0);
        Checks.same("it stays empty", Checks.state(desk), EMPTY);
    }

    private static void clearedObject() {
        TermDesk desk = Checks.desk("term a\nterm b\nisa a b\nalias c a\nold b\ngene g\ngene h\nstudy g\nnote g a\n");
        desk.report(0, 1, 1);
        desk.print(0, 0, 3);
        Checks.feed(desk, "term d");
        desk.clear();
        Checks.same("a cleared object", Checks.state(desk), EMPTY);
        Checks.same("its text", desk.run(), 0);
        // nothing of what was there is left behind the same numbers
        Checks.run(desk, "term c\nterm a\ngene h\nstudy h");
        Checks.same("new terms and genes", Checks.state(desk),
            "text 0 printed  fault 0 -1 about 2 1 1 0 0 0 0 2 term c 0 0 0 0 0 0 0 term a 0 0 0 0 0 0 0 gene h");
        Checks.same("no report", desk.report(0, 1, 1), 0);
    }

    private static void clearedAfterFault() {
        TermDesk desk = new TermDesk();
        Checks.run(desk, "term a\nterm a");
        Checks.same("a fault", desk.fault(0), 4);
        desk.clear();
        Checks.same("cleared", Checks.state(desk), EMPTY);
    }

    private static void clearedAgain() {
        TermDesk desk = Checks.desk("term a\ngene g\nstudy g\nnote g a");
        desk.report(0, 1, 1);
        desk.clear();
        Checks.same("a report of nothing", desk.report(0, 1, 1), 0);
        Checks.run(desk, "term x\ngene g\ngene h\nstudy g\nnote g x");
        Checks.same("a report", desk.report(0, 1, 1), 1);
        Checks.same("its value", Checks.print(desk, 0, 0, -1), "1/2");
    }
}
