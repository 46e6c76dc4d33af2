import java.math.BigDecimal;
import java.math.BigInteger;
import java.math.RoundingMode;
import java.util.List;

/** The edges that the document names for rounding, and for promises 13 and 14. */
public final class PrintEdgeTest {
    private static final int NONE = TermDesk.NONE;
    private static final int[] FAR = {Integer.MIN_VALUE, -256, -2, 256, 65536, Integer.MAX_VALUE};
    private static final Class<IndexOutOfBoundsException> NO_SUCH = IndexOutOfBoundsException.class;
    private static final Class<IllegalArgumentException> WRONG = IllegalArgumentException.class;

    public static void main(String[] args) {
        everyFraction();
        halves();
        besideHalves();
        overThePoint();
        formOfPlaces();
        leastTerms();
        wholeOnes();
        greatestNumbers();
        valuesOfRow();
        wrongRows();
        wrongValuesAndPlaces();
        charactersBeyond();
        latestPrinted();
        refusedPrintStays();
        Checks.end();
    }

    /** A desk whose single row has the chance size / genes. */
    private static TermDesk chance(int size, int genes) {
        return PrintTest.single(genes, 1, size, 1);
    }

    private static void everyFraction() {
        Checks.sentence("A number is ROUNDED to d places to the nearest one, halves to even last digits");
        for (int genes = 1; genes <= 48; genes++) {
            for (int size = 1; size <= genes; size++) {
                TermDesk desk = chance(size, genes);
                for (int d = 0; d <= 6; d++) {
                    String due = new BigDecimal(size).divide(new BigDecimal(genes), d, RoundingMode.HALF_EVEN).toPlainString();
                    Checks.same(size + "/" + genes + " to " + d, Checks.print(desk, 0, 0, d), due);
                }
            }
        }
    }

    private static void halves() {
        Checks.sentence("halves to even last digits");
        rounded(1, 2, 0, "0");
        rounded(1, 4, 1, "0.2");
        rounded(3, 4, 1, "0.8");
        rounded(1, 20, 1, "0.0");
        rounded(3, 20, 1, "0.2");
        rounded(9, 20, 1, "0.4");
        rounded(11, 20, 1, "0.6");
        rounded(17, 20, 1, "0.8");
        rounded(19, 20, 1, "1.0");
        rounded(1, 8, 2, "0.12");
        rounded(3, 8, 2, "0.38");
        rounded(1, 16, 3, "0.062");
        rounded(3, 16, 3, "0.188");
        rounded(1, 32, 4, "0.0312");
        rounded(1, 64, 5, "0.01562");
        rounded(1, 128, 6, "0.007812");
        rounded(3, 128, 6, "0.023438");
        for (int size = 1; size <= 200; size++) {
            String due = BigDecimal.valueOf(size * 5, 3).setScale(2, RoundingMode.HALF_EVEN).toPlainString();
            rounded(size, 200, 2, due);
        }
    }

    private static void rounded(int size, int genes, int d, String due) {
        Checks.same(size + "/" + genes + " to " + d, Checks.print(chance(size, genes), 0, 0, d), due);
    }

    private static void besideHalves() {
        Checks.sentence("to the nearest one (a little less and a little more than a half)");
        rounded(99, 199, 0, "0");
        rounded(100, 199, 0, "1");
        rounded(99, 200, 0, "0");
        rounded(101, 200, 0, "1");
        rounded(49, 196, 1, "0.2");
        rounded(50, 199, 1, "0.3");
        rounded(49, 197, 1, "0.2");
        rounded(1, 3, 40, "0." + "3".repeat(40));
        rounded(2, 3, 40, "0." + "6".repeat(39) + "7");
    }

    private static void overThePoint() {
        Checks.sentence("a digit, and if d is above 0 a point and d digits (nines that become a whole one)");
        rounded(199, 200, 0, "1");
        rounded(199, 200, 1, "1.0");
        rounded(199, 200, 2, "1.00");
        rounded(199, 200, 3, "0.995");
        rounded(189, 190, 2, "0.99");
        rounded(198, 199, 1, "1.0");
        rounded(39, 196, 1, "0.2");
        rounded(139, 199, 2, "0.70");
        Checks.same("nearly sure to 40", Checks.print(PrintTest.single(200, 100, 100, 1), 0, 0, 40), "1." + "0".repeat(40));
    }

    private static void formOfPlaces() {
        Checks.sentence("print: rounded to d places .. how many characters");
        TermDesk desk = chance(1, 3);
        TermDesk sure = chance(3, 3);
        for (int d = 0; d <= 40; d++) {
            Checks.same("characters of " + d, desk.print(0, 0, d), d == 0 ? 1 : d + 2);
            Checks.same("a third to " + d, Checks.printed(desk), d == 0 ? "0" : "0." + "3".repeat(d));
            Checks.same("characters of " + d, sure.print(0, 0, d), d == 0 ? 1 : d + 2);
            Checks.same("a whole one to " + d, Checks.printed(sure), d == 0 ? "1" : "1." + "0".repeat(d));
        }
        Checks.same("characters of a third", desk.print(0, 0, NONE), 3);
        Checks.same("characters of a whole one", sure.print(0, 0, NONE), 1);
    }

    private static void leastTerms() {
        Checks.sentence("for d = NONE, just, in least terms (digits, and if it is not whole, '/' and digits)");
        for (int genes = 1; genes <= 200; genes += genes < 40 ? 1 : 13) {
            for (int size = 1; size <= genes; size++) {
                int common = BigInteger.valueOf(size).gcd(BigInteger.valueOf(genes)).intValue();
                String due = size == genes ? "1" : size / common + "/" + genes / common;
                Checks.same(size + " of " + genes, Checks.print(chance(size, genes), 0, 0, NONE), due);
            }
        }
        for (int prime : new int[] {2, 3, 97, 101, 103, 191, 193, 197, 199}) {
            Checks.same("1 of " + prime, Checks.print(chance(1, prime), 0, 0, NONE), "1/" + prime);
            Checks.same("all but 1 of " + prime, Checks.print(chance(prime - 1, prime), 0, 0, NONE), prime - 1 + "/" + prime);
        }
    }

    private static void wholeOnes() {
        Checks.sentence("print: .. if it is not whole (a whole one has no '/')");
        TermDesk desk = Checks.desk(ReportTest.STUDY);
        desk.report(1, 1, 1);
        for (int row = 1; row < 5; row++) {
            Checks.same("a value that is cut to 1", Checks.print(desk, row, 1, NONE), "1");
        }
        Checks.same("one that is less", Checks.print(desk, 0, 1, NONE), "1/4");
    }

    private static void greatestNumbers() {
        Checks.sentence("by exact chances (every place of the greatest numbers)");
        TermDesk desk = Checks.desk(ReportEdgeTest.fullBoard());
        desk.report(0, 1, 1);
        Model model = new Model();
        model.run(ReportEdgeTest.fullBoard());
        List<Model.Row> rows = model.ranked();
        for (int i = 0; i < rows.size(); i++) {
            for (int value = 0; value < 4; value++) {
                for (int d = NONE; d <= 40; d += 1 + i % 5) {
                    String due = rows.get(i).values()[value].print(d);
                    Checks.same("value " + value + " of row " + i + " to " + d, Checks.print(desk, i, value, d), due);
                }
            }
        }
    }

    private static void valuesOfRow() {
        Checks.sentence("print: Prints a value of a row (all four, whatever the report's is)");
        String[] due = {"1/5", "1", "4/5", "1/2"};
        for (int of = 0; of < 4; of++) {
            TermDesk desk = Checks.desk(ReportTest.STUDY);
            desk.report(of, 1, 1);
            int row = 0;
            while (desk.row(row, 0) != 3) {
                row++;
            }
            for (int value = 0; value < 4; value++) {
                Checks.same("value " + value + " in a report of " + of, Checks.print(desk, row, value, NONE), due[value]);
            }
        }
    }

    private static void wrongRows() {
        Checks.sentence("print: IndexOutOfBoundsException (named first)");
        TermDesk fresh = new TermDesk();
        Checks.refused("print(0, 0, 0) of a new object", NO_SUCH, fresh, () -> fresh.print(0, 0, 0));
        Checks.refused("print(0, 9, 99) of a new object", NO_SUCH, fresh, () -> fresh.print(0, 9, 99));
        TermDesk desk = Checks.desk(ReportTest.STUDY);
        Checks.refused("print(0, 0, 0) before a report", NO_SUCH, desk, () -> desk.print(0, 0, 0));
        desk.report(0, 1, 2);
        desk.print(3, 0, 3);
        Checks.refused("print(4, 0, 0)", NO_SUCH, desk, () -> desk.print(4, 0, 0));
        Checks.refused("print(-1, 0, 0)", NO_SUCH, desk, () -> desk.print(-1, 0, 0));
        Checks.refused("print(4, 4, 0)", NO_SUCH, desk, () -> desk.print(4, 4, 0));
        Checks.refused("print(-1, 0, 41)", NO_SUCH, desk, () -> desk.print(-1, 0, 41));
        for (int far : FAR) {
            Checks.refused("print(" + far + ", 0, 0)", NO_SUCH, desk, () -> desk.print(far, 0, 0));
            Checks.refused("print(" + far + ", -1, -2)", NO_SUCH, desk, () -> desk.print(far, -1, -2));
        }
    }

    private static void wrongValuesAndPlaces() {
        Checks.sentence("print: IllegalArgumentException: value is not 0 .. 3, or d not NONE .. 40");
        TermDesk desk = Checks.desk(ReportTest.STUDY);
        desk.report(0, 1, 1);
        desk.print(0, 0, 40);
        for (int value : new int[] {-1, 4}) {
            for (int d : new int[] {-2, -1, 0, 40, 41}) {
                Checks.refused("print(0, " + value + ", " + d + ")", WRONG, desk, () -> desk.print(0, value, d));
            }
        }
        for (int value = 0; value < 4; value++) {
            int right = value;
            Checks.refused("print(4, " + value + ", 41)", WRONG, desk, () -> desk.print(4, right, 41));
            Checks.refused("print(4, " + value + ", -2)", WRONG, desk, () -> desk.print(4, right, -2));
        }
        for (int far : FAR) {
            Checks.refused("print(0, " + far + ", 0)", WRONG, desk, () -> desk.print(0, far, 0));
            Checks.refused("print(0, 0, " + far + ")", WRONG, desk, () -> desk.print(0, 0, far));
        }
        Checks.same("the most places", desk.print(0, 0, 40), 42);
        Checks.same("the least number of places", desk.print(0, 0, 0), 1);
        Checks.same("NONE", desk.print(0, 0, NONE), 4);
    }

    private static void charactersBeyond() {
        Checks.sentence("character: NONE when there is none");
        TermDesk fresh = new TermDesk();
        TermDesk desk = chance(1, 200);
        for (int i : new int[] {-1, 0, 1, Integer.MIN_VALUE, Integer.MAX_VALUE}) {
            Checks.same("character(" + i + ") of a new object", fresh.character(i), NONE);
            Checks.same("character(" + i + ") before printing", desk.character(i), NONE);
        }
        desk.print(0, 0, NONE);
        int[] due = {NONE, '1', '/', '2', '0', '0', NONE, NONE};
        for (int i = -1; i < 7; i++) {
            Checks.same("character(" + i + ")", desk.character(i), due[i + 1]);
        }
        for (int far : FAR) {
            Checks.same("character(" + far + ")", desk.character(far), NONE);
        }
        TermDesk longest = PrintTest.single(200, 100, 100, 1);
        int length = longest.print(0, 0, NONE);
        Checks.same("the characters of the longest chance", length, 119);
        Checks.same("the last one", longest.character(118), (int) '0');
        Checks.same("behind it", longest.character(119), NONE);
    }

    private static void latestPrinted() {
        Checks.sentence("character: Character i of what was printed latest");
        TermDesk desk = Checks.desk(ReportTest.STUDY);
        desk.report(0, 1, 1);
        desk.print(0, 0, 10);
        desk.print(1, 0, 1);
        Checks.same("the latest, and nothing of a longer one before it", Checks.printed(desk), "0.2");
        Checks.same("behind it", desk.character(3), NONE);
        desk.report(0, 0, 1);
        Checks.same("behind a report without rows", Checks.printed(desk), "0.2");
        Checks.run(desk, "old x\nold y");
        Checks.same("behind a run", Checks.printed(desk), "0.2");
        desk.clear();
        Checks.same("behind clear()", Checks.printed(desk), "");
        Checks.same("behind clear()", desk.character(0), NONE);
    }

    private static void refusedPrintStays() {
        Checks.sentence("A call that throws changes nothing (what was printed)");
        TermDesk desk = Checks.desk(ReportTest.STUDY);
        desk.report(0, 1, 1);
        desk.print(3, 3, NONE);
        Checks.refused("print(5, 0, 0)", NO_SUCH, desk, () -> desk.print(5, 0, 0));
        Checks.refused("print(0, 4, 0)", WRONG, desk, () -> desk.print(0, 4, 0));
        Checks.refused("print(0, 0, 41)", WRONG, desk, () -> desk.print(0, 0, 41));
        Checks.same("what was printed", Checks.printed(desk), "5/8");
    }
}
