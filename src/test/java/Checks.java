import java.nio.charset.StandardCharsets;

/** What the tests share: looking at answers, feeding texts and reading what was printed. */
final class Checks {
    private static int looked = 0;
    private static int wrong = 0;
    private static String sentence = "";

    private Checks() {
    }

    interface Call {
        void make();
    }

    /** The document's words that the checks from here on hold the class to: told with each that fails. */
    static void sentence(String words) {
        sentence = " [" + words + "]";
    }

    static void same(String what, Object got, Object due) {
        looked++;
        if (!due.equals(got)) {
            wrong++;
            System.out.println(what + " answered " + got + ", due is " + due + sentence);
        }
    }

    /** The exception is of just that class, and all that can be read of the desk is as before. */
    static void refused(String what, Class<? extends RuntimeException> due, TermDesk desk, Call call) {
        String before = state(desk);
        same(what + " throws", thrownBy(call), due.getSimpleName());
        same("the state behind " + what, state(desk), before);
    }

    private static String thrownBy(Call call) {
        try {
            call.make();
            return "nothing";
        } catch (RuntimeException e) {
            return e.getClass().getSimpleName();
        }
    }

    static int feed(TermDesk desk, String text) {
        return feed(desk, text.getBytes(StandardCharsets.ISO_8859_1));
    }

    /** Fills the last twenty bytes up with blanks and trims these; an empty text is not fed. */
    static int feed(TermDesk desk, byte[] text) {
        int length = desk.trim(0);
        for (int from = 0; from < text.length; from += 20) {
            length = desk.feed(four(text, from), four(text, from + 4), four(text, from + 8), four(text, from + 12),
                four(text, from + 16));
        }
        return desk.trim((20 - text.length % 20) % 20);
    }

    private static int four(byte[] text, int from) {
        int four = 0;
        for (int i = from; i < from + 4; i++) {
            four = four << 8 | (i < text.length ? text[i] & 255 : 32);
        }
        return four;
    }

    static int run(TermDesk desk, String text) {
        feed(desk, text);
        return desk.run();
    }

    /** A new desk on which a text was run that has no fault. */
    static TermDesk desk(String text) {
        TermDesk desk = new TermDesk();
        run(desk, text);
        same("the fault of a right text", desk.fault(0), 0);
        return desk;
    }

    static String printed(TermDesk desk) {
        StringBuilder characters = new StringBuilder();
        for (int i = 0; desk.character(i) != TermDesk.NONE; i++) {
            characters.append((char) desk.character(i));
        }
        return characters.toString();
    }

    static String print(TermDesk desk, int row, int value, int places) {
        int length = desk.print(row, value, places);
        String characters = printed(desk);
        same("the length of " + characters, length, characters.length());
        return characters;
    }

    static String name(TermDesk desk, int number, boolean gene) {
        StringBuilder letters = new StringBuilder();
        for (int i = 0; desk.letter(number, gene, i) != TermDesk.NONE; i++) {
            letters.append((char) desk.letter(number, gene, i));
        }
        return letters.toString();
    }

    /** All that can be read without a change: the text only by its length. */
    static String state(TermDesk desk) {
        StringBuilder all = new StringBuilder();
        all.append("text ").append(desk.trim(0)).append(" printed ").append(printed(desk));
        all.append(" fault ").append(desk.fault(0)).append(' ').append(desk.fault(1)).append(" about");
        for (int what = 0; what < 8; what++) {
            all.append(' ').append(desk.about(what));
        }
        for (int term = 0; term < desk.about(0); term++) {
            all.append(" term ").append(name(desk, term, false));
            for (int what = 0; what < 7; what++) {
                all.append(' ').append(desk.term(term, what));
            }
        }
        for (int gene = 0; gene < desk.about(1); gene++) {
            all.append(" gene ").append(name(desk, gene, true));
        }
        for (int row = 0; row < desk.about(4); row++) {
            all.append(" row");
            for (int what = 0; what < 5; what++) {
                all.append(' ').append(desk.row(row, what));
            }
        }
        return all.toString();
    }

    static void end() {
        System.out.println(looked + " looked at, " + wrong + " wrong");
        if (wrong != 0) {
            System.exit(1);
        }
    }
}
