/** The face of the document over the model: answers are told as texts, exceptions by their names. */
final class ModelDesk {
    private static final String WRONG = "IllegalArgumentException";
    private static final String NO_SUCH = "IndexOutOfBoundsException";

    private final StringBuilder text = new StringBuilder();
    private Model model = new Model();
    private String printed = "";

    String feed(int... numbers) {
        if (text.length() + 20 > 40000) {
            return "IllegalStateException";
        }
        for (int number : numbers) {
            for (int shift = 24; shift >= 0; shift -= 8) {
                text.append((char) (number >>> shift & 255));
            }
        }
        return "" + text.length();
    }

    String trim(int n) {
        if (n < 0 || n > 20 || n > text.length()) {
            return WRONG;
        }
        text.setLength(text.length() - n);
        return "" + text.length();
    }

    String run() {
        String all = text.toString();
        text.setLength(0);
        return "" + model.run(all);
    }

    String fault(int what) {
        return what == 0 ? "" + model.fault : what == 1 ? "" + model.place : WRONG;
    }

    String about(int what) {
        return what < 0 || what > 7 ? WRONG : "" + model.about(what);
    }

    private boolean isTerm(int term) {
        return term >= 0 && term < model.terms.size();
    }

    private boolean isGene(int gene) {
        return gene >= 0 && gene < model.genes.size();
    }

    private boolean isRow(int row) {
        return row >= 0 && row < model.report.size();
    }

    String term(int term, int what) {
        return !isTerm(term) ? NO_SUCH : what < 0 || what > 6 ? WRONG : "" + model.term(term, what);
    }

    String letter(int number, boolean gene, int i) {
        if (gene ? !isGene(number) : !isTerm(number)) {
            return NO_SUCH;
        }
        String name = gene ? model.genes.get(number) : model.terms.get(number);
        return "" + (i >= 0 && i < name.length() ? name.charAt(i) : TermDesk.NONE);
    }

    String isAbove(int a, int b) {
        return isTerm(a) && isTerm(b) ? "" + model.above(b).contains(a) : NO_SUCH;
    }

    String isAt(int gene, int term) {
        return isGene(gene) && isTerm(term) ? "" + model.at(term).contains(gene) : NO_SUCH;
    }

    String report(int value, int a, int b) {
        return value < 0 || value > 3 || a < 0 || b < 1 ? WRONG : "" + model.report(value, a, b);
    }

    String row(int i, int what) {
        if (!isRow(i)) {
            return NO_SUCH;
        }
        Model.Row row = model.report.get(i);
        return switch (what) {
            case 0 -> "" + row.term();
            case 1 -> "" + row.hits();
            case 2 -> "" + row.studied();
            case 3 -> "" + row.size();
            case 4 -> "" + row.genes();
            default -> WRONG;
        };
    }

    String print(int i, int value, int d) {
        if (!isRow(i)) {
            return NO_SUCH;
        }
        if (value < 0 || value > 3 || d < TermDesk.NONE || d > 40) {
            return WRONG;
        }
        printed = model.report.get(i).values()[value].print(d);
        return "" + printed.length();
    }

    String character(int i) {
        return "" + (i >= 0 && i < printed.length() ? printed.charAt(i) : TermDesk.NONE);
    }

    String clear() {
        text.setLength(0);
        model = new Model();
        printed = "";
        return "cleared";
    }
}
