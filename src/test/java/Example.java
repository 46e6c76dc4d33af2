/** A text, its faults, and a report: the example of README.md. */
public final class Example {
    private static final String TEXT = "term process\nterm repair\nterm growth\n"
        + "isa repair process\nisa growth process\n"
        + "gene g1\ngene g2\ngene g3\ngene g4\ngene g5\ngene g6\ngene g7\ngene g8\n"
        + "note g1 repair\nnote g2 repair\nnote g3 repair\nnote g3 growth\nnote g4 growth\nnote g5 process\n"
        + "study g1\nstudy g2\nstudy g3\n";

    public static void main(String[] args) {
        TermDesk desk = new TermDesk();
        feed(desk, TEXT);
        System.out.println(desk.run() + " lines, fault " + desk.fault(0));
        int rows = desk.report(3, 1, 2);
        for (int row = 0; row < rows; row++) {
            System.out.println(name(desk, desk.row(row, 0)) + ": " + desk.row(row, 1) + " of " + desk.row(row, 2)
                + " in the study, " + desk.row(row, 3) + " of " + desk.row(row, 4) + " in all; chance "
                + print(desk, row, 0, TermDesk.NONE) + ", put right " + print(desk, row, 3, 4));
        }
        feed(desk, "note g6 repare\n");
        System.out.println(desk.run() + " lines, fault " + desk.fault(0) + " at " + desk.fault(1));
    }

    /** Twenty bytes a call; blanks fill the last twenty up and are trimmed. */
    private static void feed(TermDesk desk, String text) {
        for (int from = 0; from < text.length(); from += 20) {
            desk.feed(four(text, from), four(text, from + 4), four(text, from + 8), four(text, from + 12),
                four(text, from + 16));
        }
        desk.trim((20 - text.length() % 20) % 20);
    }

    private static int four(String text, int from) {
        int four = 0;
        for (int i = from; i < from + 4; i++) {
            four = four << 8 | (i < text.length() ? text.charAt(i) & 255 : ' ');
        }
        return four;
    }

    private static String name(TermDesk desk, int term) {
        StringBuilder name = new StringBuilder();
        for (int i = 0; desk.letter(term, false, i) != TermDesk.NONE; i++) {
            name.append((char) desk.letter(term, false, i));
        }
        return name.toString();
    }

    private static String print(TermDesk desk, int row, int value, int places) {
        int length = desk.print(row, value, places);
        StringBuilder printed = new StringBuilder();
        for (int i = 0; i < length; i++) {
            printed.append((char) desk.character(i));
        }
        return printed.toString();
    }
}
