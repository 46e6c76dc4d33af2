import java.util.ArrayList;
import java.util.List;

/** What holds for all calls: one that throws changes nothing; promises 1 and 15; two objects are apart. */
public final class CallEdgeTest {
    private static final Class<IndexOutOfBoundsException> NO_SUCH = IndexOutOfBoundsException.class;
    private static final Class<IllegalArgumentException> WRONG = IllegalArgumentException.class;
    private static final String EMPTY = "text 0 printed  fault 0 -1 about 0 0 0 0 0 0 0 0";

    public static void main(String[] args) {
        newObject();
        newObjectRefuses();
        readingChangesNothing();
        refusedCallsChangeNothing();
        firstNamedException();
        clearOfNew();
        clearOfEach();
        clearThenTheSame();
        nothingBehindSameNumbers();
        objectsApart();
        Checks.end();
    }

    /** A desk in the middle of its work: terms, a report, something printed, a fault, and a text that is not run yet. */
    private static TermDesk busy() {
        TermDesk desk = Checks.desk(ReportTest.STUDY);
        desk.report(3, 5, 8);
        desk.print(2, 3, 7);
        Checks.run(desk, "alias xx x\nold u\nterm x");
        Checks.feed(desk, "term later\nnote d later\nisa later w\nstudy d");
        return desk;
    }

    /** All that the rest of a desk's life tells. */
    private static String rest(TermDesk desk) {
        StringBuilder all = new StringBuilder(Checks.state(desk));
        all.append(" run ").append(desk.run()).append(' ').append(Checks.state(desk));
        for (int value = 0; value < 4; value++) {
            desk.report(value, 1, 1);
            for (int row = 0; row < desk.about(4); row++) {
                all.append(' ').append(Checks.print(desk, row, value, TermDesk.NONE));
            }
            all.append(Checks.state(desk));
        }
        return all.toString();
    }

    private static void newObject() {
        Checks.sentence("A new object: No terms, no genes, no text, an empty report");
        Checks.same("a new object", Checks.state(new TermDesk()), EMPTY);
        TermDesk desk = new TermDesk();
        Checks.same("its text", desk.run(), 0);
        Checks.same("its report", desk.about(4), 0);
        Checks.same("its printed characters", desk.character(0), TermDesk.NONE);
        Checks.same("a report of it", desk.report(0, Integer.MAX_VALUE, 1), 0);
    }

    private static void newObjectRefuses() {
        Checks.sentence("IndexOutOfBoundsException: there is no such term, gene or row (of a new object, and behind clear())");
        TermDesk cleared = busy();
        cleared.clear();
        for (TermDesk desk : new TermDesk[] {new TermDesk(), cleared}) {
            Checks.refused("term(0, 0)", NO_SUCH, desk, () -> desk.term(0, 0));
            Checks.refused("letter(0, false, 0)", NO_SUCH, desk, () -> desk.letter(0, false, 0));
            Checks.refused("letter(0, true, 0)", NO_SUCH, desk, () -> desk.letter(0, true, 0));
            Checks.refused("isAbove(0, 0)", NO_SUCH, desk, () -> desk.isAbove(0, 0));
            Checks.refused("isAt(0, 0)", NO_SUCH, desk, () -> desk.isAt(0, 0));
            Checks.refused("row(0, 0)", NO_SUCH, desk, () -> desk.row(0, 0));
            Checks.refused("print(0, 0, 0)", NO_SUCH, desk, () -> desk.print(0, 0, 0));
            Checks.refused("trim(1)", WRONG, desk, () -> desk.trim(1));
            Checks.same("trim(0)", desk.trim(0), 0);
        }
    }

    private static void readingChangesNothing() {
        Checks.sentence("Calls that only answer change nothing");
        TermDesk desk = busy();
        String due = rest(busy());
        String first = Checks.state(desk);
        Checks.same("read twice", Checks.state(desk), first);
        Checks.same("the rest", rest(desk), due);
    }

    private static List<Checks.Call> refusedCalls(TermDesk desk) {
        List<Checks.Call> calls = new ArrayList<>();
        for (int bad : new int[] {Integer.MIN_VALUE, -2, -1, 41, 200, Integer.MAX_VALUE}) {
            calls.add(() -> desk.trim(bad));
            calls.add(() -> desk.fault(bad));
            calls.add(() -> desk.about(bad));
            calls.add(() -> desk.term(bad, 0));
            calls.add(() -> desk.term(0, bad));
            calls.add(() -> desk.letter(bad, false, 0));
            calls.add(() -> desk.letter(bad, true, 0));
            calls.add(() -> desk.isAbove(bad, 0));
            calls.add(() -> desk.isAbove(0, bad));
            calls.add(() -> desk.isAt(bad, 0));
            calls.add(() -> desk.isAt(0, bad));
            calls.add(() -> desk.report(bad, 1, 1));
            calls.add(() -> desk.report(0, bad < 0 ? bad : -bad, 1));
            calls.add(() -> desk.report(1, 1, bad < 0 ? bad : -bad));
            calls.add(() -> desk.row(bad, 0));
            calls.add(() -> desk.row(0, bad));
            calls.add(() -> desk.print(bad, 0, 0));
            calls.add(() -> desk.print(0, bad, 0));
            calls.add(() -> desk.print(0, 0, bad == -1 ? -3 : bad));
        }
        return calls;
    }

    private static void refusedCallsChangeNothing() {
        Checks.sentence("A call that throws changes nothing");
        String due = rest(busy());
        TermDesk all = busy();
        int count = refusedCalls(all).size();
        for (int i = 0; i < count; i++) {
            TermDesk desk = busy();
            Checks.same("refused call " + i, refuses(refusedCalls(desk).get(i)), true);
            Checks.same("the rest behind refused call " + i, rest(desk), due);
            Checks.same("refused call " + i, refuses(refusedCalls(all).get(i)), true);
        }
        Checks.same("the rest behind all of them", rest(all), due);
    }

    private static boolean refuses(Checks.Call call) {
        try {
            call.make();
            return false;
        } catch (IndexOutOfBoundsException | IllegalArgumentException e) {
            return true;
        }
    }

    private static void firstNamedException() {
        Checks.sentence("of several exceptions that fit the one named first is thrown");
        TermDesk desk = busy();
        for (int bad : new int[] {Integer.MIN_VALUE, -1, 200, Integer.MAX_VALUE}) {
            for (int what : new int[] {Integer.MIN_VALUE, -2, 41, Integer.MAX_VALUE}) {
                Checks.refused("term(" + bad + ", " + what + ")", NO_SUCH, desk, () -> desk.term(bad, what));
                Checks.refused("row(" + bad + ", " + what + ")", NO_SUCH, desk, () -> desk.row(bad, what));
                Checks.refused("print(" + bad + ", " + what + ", 0)", NO_SUCH, desk, () -> desk.print(bad, what, 0));
                Checks.refused("print(" + bad + ", 0, " + what + ")", NO_SUCH, desk, () -> desk.print(bad, 0, what));
            }
        }
    }

    private static void clearOfNew() {
        Checks.sentence("clear: All is as at first (of a new object, and twice)");
        TermDesk desk = new TermDesk();
        desk.clear();
        Checks.same("cleared", Checks.state(desk), EMPTY);
        desk.clear();
        Checks.same("cleared twice", Checks.state(desk), EMPTY);
        Checks.same("its use behind it", Checks.run(desk, "term a\ngene b"), 2);
    }

    private static void clearOfEach() {
        Checks.sentence("clear: All is as at first (text, fault, terms, report, what was printed)");
        TermDesk fed = new TermDesk();
        Checks.feed(fed, "term a\nold");
        fed.clear();
        Checks.same("a text goes", fed.trim(0), 0);
        Checks.same("nothing is run", fed.run(), 0);
        TermDesk stopped = new TermDesk();
        Checks.run(stopped, "term a\nold");
        stopped.clear();
        Checks.same("a fault goes", stopped.fault(0), 0);
        Checks.same("its place goes", stopped.fault(1), TermDesk.NONE);
        Checks.same("a name is free again", Checks.run(stopped, "term a"), 1);
        TermDesk reported = busy();
        reported.clear();
        Checks.same("all goes", Checks.state(reported), EMPTY);
        Checks.same("a report behind it", reported.report(0, 1, 1), 0);
        TermDesk justReported = Checks.desk(ReportTest.STUDY);
        Checks.same("a report before it", justReported.report(0, 1, 1), 5);
        justReported.clear();
        Checks.same("the same report behind it", justReported.report(0, 1, 1), 0);
    }

    private static void clearThenTheSame() {
        Checks.sentence("clear: All is as at first (the same calls answer the same again)");
        String due = rest(busy());
        TermDesk desk = busy();
        for (int times = 0; times < 3; times++) {
            desk.clear();
            Checks.run(desk, ReportTest.STUDY);
            desk.report(3, 5, 8);
            desk.print(2, 3, 7);
            Checks.run(desk, "alias xx x\nold u\nterm x");
            Checks.feed(desk, "term later\nnote d later\nisa later w\nstudy d");
            Checks.same("the rest behind clear()", rest(desk), due);
        }
    }

    private static void nothingBehindSameNumbers() {
        Checks.sentence("clear: All is as at first (the same numbers have nothing of before)");
        TermDesk desk = Checks.desk("term a\nterm b\nterm c\ngene g\ngene h\nisa a b\nisa c b\nisa a c\nnote g a\nnote h c\n"
            + "study g\nstudy h\nold a\nold b\nold c\n");
        desk.clear();
        Checks.run(desk, "term c\nterm b\nterm a\ngene h\ngene g\n");
        Checks.same("all of it", Checks.state(desk), "text 0 printed  fault 0 -1 about 3 2 0 0 0 0 0 3 "
            + "term c 0 0 0 0 0 0 0 term b 0 0 0 0 0 0 0 term a 0 0 0 0 0 0 0 gene h gene g");
        for (int term = 0; term < 3; term++) {
            for (int other = 0; other < 3; other++) {
                Checks.same("isAbove", desk.isAbove(term, other), false);
            }
            Checks.same("isAt", desk.isAt(0, term) || desk.isAt(1, term), false);
        }
        Checks.same("a link the other way round", Checks.run(desk, "isa b a\nisa a c\nnote g b\nstudy g"), 4);
        Checks.same("candidates", desk.about(3), 3);
    }

    private static void objectsApart() {
        Checks.sentence("A new object (has nothing of another one)");
        TermDesk one = busy();
        TermDesk other = new TermDesk();
        Checks.same("a new one beside a busy one", Checks.state(other), EMPTY);
        Checks.run(other, "term only\ngene g\nstudy g\nnote g only");
        other.report(0, 1, 1);
        other.print(0, 0, 0);
        other.clear();
        Checks.same("the busy one", rest(one), rest(busy()));
    }
}
