import java.util.Random;

/** Many texts, right and wrong, small and as large as may be: each answer is held against the model's. */
public final class ModelTest {
    private static final String[] KINDS = {"term", "term", "alias", "isa", "isa", "part", "old", "gene", "gene", "note",
        "note", "note", "not", "study", "study"};
    private static final String[] ODD = {"", " ", "-", "tern x", "term", " term q", "isa  a", "note a b ", "gene a-b",
        "term abcdefghijklm", "study a b c", "\u00e4", "not a", "alias q"};

    public static void main(String[] args) {
        for (int seed = 0; seed < 1500; seed++) {
            small(new Random(seed));
        }
        for (int seed = 0; seed < 8; seed++) {
            large(new Random(seed));
        }
        Checks.end();
    }

    private static void small(Random random) {
        TermDesk desk = new TermDesk();
        Model model = new Model();
        int names = 2 + random.nextInt(12);
        for (int runs = 1 + random.nextInt(8); runs > 0; runs--) {
            StringBuilder text = new StringBuilder();
            for (int lines = random.nextInt(12); lines > 0; lines--) {
                text.append(line(random, names)).append(lines > 1 || random.nextBoolean() ? "\n" : "");
            }
            runBoth(desk, model, text.toString());
            compareBoard(desk, model);
            if (random.nextInt(3) == 0) {
                reportBoth(desk, model, random.nextInt(4), random.nextInt(12), 1 + random.nextInt(10));
            }
            compareReport(desk, model, random.nextInt(41));
        }
        for (int value = 0; value < 4; value++) {
            reportBoth(desk, model, value, 1, 1);
            compareReport(desk, model, random.nextInt(8));
        }
    }

    private static String line(Random random, int names) {
        if (random.nextInt(25) == 0) {
            return ODD[random.nextInt(ODD.length)];
        }
        String kind = KINDS[random.nextInt(KINDS.length)];
        boolean one = kind.equals("term") || kind.equals("old") || kind.equals("gene") || kind.equals("study");
        if (kind.equals("old") && random.nextInt(3) > 0) {
            return "";
        }
        String first = " " + (char) ('a' + random.nextInt(names));
        String second = " " + (char) ('a' + random.nextInt(names));
        return kind + first + (one ? "" : second);
    }

    /** No line of it is wrong but for one note too many, so that all comes to stand. */
    private static void large(Random random) {
        TermDesk desk = new TermDesk();
        Model model = new Model();
        int genes = random.nextBoolean() ? 200 : 20 + random.nextInt(180);
        int terms = random.nextBoolean() ? 200 : 20 + random.nextInt(180);
        int part = 1 + random.nextInt(9);
        StringBuilder text = new StringBuilder();
        for (int i = 0; i < genes; i++) {
            text.append("gene ").append(i).append('\n');
            text.append(random.nextInt(10) < part ? "study " + i + "\n" : "");
        }
        for (int i = 0; i < terms; i++) {
            text.append("term ").append(i).append('\n');
            for (int links = i == 0 ? 0 : random.nextInt(4); links > 0; links--) {
                int parent = Math.max(0, i - 1 - random.nextInt(1 + random.nextInt(40)));
                text.append("isa ").append(i).append(' ').append(parent).append('\n');
            }
            for (int notes = random.nextInt(19); notes > 0; notes--) {
                text.append("note ").append(random.nextInt(genes)).append(' ').append(i).append('\n');
            }
            text.append(random.nextInt(30) == 0 ? "\n" : "");
        }
        runBoth(desk, model, text.toString());
        compareBoard(desk, model);
        for (int value = 0; value < 4; value++) {
            reportBoth(desk, model, value, 1 + random.nextInt(1 << 30), 1 << 30);
            compareReport(desk, model, 40 - value);
        }
    }

    private static void runBoth(TermDesk desk, Model model, String text) {
        Checks.feed(desk, text);
        Checks.same("run of " + text, desk.run(), model.run(text));
        Checks.same("the fault of " + text, desk.fault(0), model.fault);
        Checks.same("the place of " + text, desk.fault(1), model.place);
    }

    private static void reportBoth(TermDesk desk, Model model, int value, int a, int b) {
        Checks.same("report(" + value + ", " + a + ", " + b + ")", desk.report(value, a, b), model.report(value, a, b));
    }

    private static void compareBoard(TermDesk desk, Model model) {
        for (int what = 0; what < 8; what++) {
            Checks.same("about(" + what + ")", desk.about(what), model.about(what));
        }
        for (int gene = 0; gene < model.genes.size(); gene++) {
            Checks.same("gene " + gene, Checks.name(desk, gene, true), model.genes.get(gene));
        }
        for (int term = 0; term < model.terms.size(); term++) {
            Checks.same("term " + term, Checks.name(desk, term, false), model.terms.get(term));
            for (int what = 0; what < 7; what++) {
                Checks.same("term(" + term + ", " + what + ")", desk.term(term, what), model.term(term, what));
            }
            var above = model.above(term);
            for (int other = 0; other < model.terms.size(); other++) {
                Checks.same("isAbove", desk.isAbove(other, term), above.contains(other));
            }
            var at = model.at(term);
            for (int gene = 0; gene < model.genes.size(); gene++) {
                Checks.same("isAt", desk.isAt(gene, term), at.contains(gene));
            }
        }
    }

    private static void compareReport(TermDesk desk, Model model, int places) {
        Checks.same("rows", desk.about(4), model.report.size());
        for (int i = 0; i < model.report.size(); i++) {
            Model.Row row = model.report.get(i);
            int[] due = {row.term(), row.hits(), row.studied(), row.size(), row.genes()};
            for (int what = 0; what < 5; what++) {
                Checks.same("row(" + i + ", " + what + ")", desk.row(i, what), due[what]);
            }
            for (int value = 0; value < 4; value++) {
                Model.Fraction fraction = row.values()[value];
                Checks.same("just", Checks.print(desk, i, value, TermDesk.NONE), fraction.print(TermDesk.NONE));
                Checks.same("rounded", Checks.print(desk, i, value, places), fraction.print(places));
            }
        }
    }
}
