import java.nio.charset.StandardCharsets;
import java.util.Random;

/** Objects that live 512 calls of any kind, with arguments on and beyond every edge: each answer is the model's. */
public final class WildTest {
    private static final int CALLS = 512;
    private static final int[] EDGES = {Integer.MIN_VALUE, -256, -13, -2, -1, -1, -1, -1, -1, -1, 0, 0, 1, 1, 2, 3, 4, 5, 6, 7, 8, 11, 12, 19, 20, 21,
        39, 40, 41, 199, 200, 255, 256, Integer.MAX_VALUE};
    private static final String[] WORDS = {"term", "alias", "isa", "part", "old", "gene", "note", "not", "study", "a", "b", "c", "d",
        "e", "f", "abcdefghijkl", "abcdefghijklm", "-", "", "A:9_z"};
    private static final String[] FIRST = {"term", "term", "gene", "gene", "isa", "isa", "part", "note", "note", "note", "study",
        "alias", "not"};

    private final Random random;
    private final TermDesk desk = new TermDesk();
    private final ModelDesk model = new ModelDesk();

    private WildTest(int seed) {
        random = new Random(seed);
    }

    public static void main(String[] args) {
        for (int seed = 0; seed < 2000; seed++) {
            new WildTest(seed).live(seed);
        }
        Checks.end();
    }

    private void live(int seed) {
        for (int call = beginWell(seed); call < CALLS; call++) {
            int kind = random.nextInt(20);
            if (kind < 4 && call + 4 < CALLS) {
                call += feedLine(seed, call);
            } else {
                any(seed, call, kind);
            }
        }
    }

    /** A text that has hardly a fault, so that there is something to report: how many calls it took. */
    private int beginWell(int seed) {
        StringBuilder text = new StringBuilder();
        int genes = 2 + random.nextInt(12);
        int terms = 1 + random.nextInt(8);
        for (int i = 0; i < genes; i++) {
            text.append("gene ").append(letter(i)).append(random.nextInt(2) == 0 ? "\nstudy " + letter(i) : "").append('\n');
        }
        for (int i = 0; i < terms; i++) {
            text.append("term ").append(letter(i)).append('\n');
            text.append(i > 0 && random.nextInt(3) == 0 ? "isa " + letter(i) + " " + letter(random.nextInt(i)) + "\n" : "");
            for (int notes = 1 + random.nextInt(4); notes > 0; notes--) {
                text.append("note ").append(letter(random.nextInt(genes))).append(' ').append(letter(i)).append('\n');
            }
        }
        text.append("\n".repeat(19 - (text.length() + 19) % 20));
        byte[] bytes = text.toString().getBytes(StandardCharsets.ISO_8859_1);
        for (int from = 0; from < bytes.length; from += 20) {
            feed(seed, from / 20, bytes, from);
        }
        same(seed, bytes.length / 20, "run()", told(desk::run), model.run());
        return bytes.length / 20 + 1;
    }

    private static char letter(int i) {
        return (char) ('a' + i);
    }

    private void feed(int seed, int call, byte[] bytes, int from) {
        int[] n = new int[5];
        for (int i = 0; i < 20; i++) {
            n[i / 4] = n[i / 4] << 8 | bytes[from + i] & 255;
        }
        same(seed, call, "feed", told(() -> desk.feed(n[0], n[1], n[2], n[3], n[4])), model.feed(n));
    }

    private void same(int seed, int call, String what, String got, String due) {
        Checks.same(what + " as call " + call + " of seed " + seed, got, due);
    }

    private interface Call {
        Object make();
    }

    private static String told(Call call) {
        try {
            return "" + call.make();
        } catch (RuntimeException e) {
            return e.getClass().getSimpleName();
        }
    }

    private int edge() {
        return random.nextInt(5) == 0 ? EDGES[random.nextInt(EDGES.length)] : random.nextInt(5);
    }

    private String line() {
        if (random.nextInt(20) == 0) {
            return "";
        }
        String first = random.nextInt(150) == 0 ? "old" : FIRST[random.nextInt(FIRST.length)];
        boolean one = first.equals("term") || first.equals("gene") || first.equals("study") || first.equals("old");
        StringBuilder line = new StringBuilder(first);
        for (int words = one ? 1 : 2; words > 0; words--) {
            boolean plain = random.nextInt(15) > 0;
            line.append(' ').append(plain ? "" + (char) ('a' + random.nextInt(6)) : WORDS[random.nextInt(WORDS.length)]);
        }
        line.append(random.nextInt(40) == 0 ? " " : "").append(random.nextInt(40) == 0 ? "x" : "");
        return line.toString();
    }

    /** Two feeds of one line or more, and the trim of what is too much: how many calls more than one. */
    private int feedLine(int seed, int call) {
        StringBuilder lines = new StringBuilder();
        for (String line = line(); lines.length() + line.length() < 40; line = line()) {
            lines.append(line).append('\n');
        }
        boolean withoutEnd = random.nextInt(4) == 0;
        int over = 40 - lines.length() + (withoutEnd ? 1 : 0);
        byte[] bytes = (lines + " ".repeat(40)).getBytes(StandardCharsets.ISO_8859_1);
        feed(seed, call, bytes, 0);
        feed(seed, call + 1, bytes, 20);
        for (int left = Math.min(over, 40); left > 0; left -= 20) {
            int n = Math.min(left, 20);
            same(seed, call, "trim", told(() -> desk.trim(n)), model.trim(n));
        }
        return over > 20 ? 3 : over > 0 ? 2 : 1;
    }

    private void any(int seed, int call, int kind) {
        int a = edge();
        int b = edge();
        int c = edge();
        switch (kind) {
            case 4, 5 -> same(seed, call, "run()", told(desk::run), model.run());
            case 6 -> same(seed, call, "trim(" + a + ")", told(() -> desk.trim(a)), model.trim(a));
            case 7 -> same(seed, call, "fault(" + a + ")", told(() -> desk.fault(a)), model.fault(a));
            case 8 -> same(seed, call, "about(" + a + ")", told(() -> desk.about(a)), model.about(a));
            case 9 -> same(seed, call, "term(" + a + ", " + b + ")", told(() -> desk.term(a, b)), model.term(a, b));
            case 10 -> letter(seed, call, a, c > 2, b);
            case 11 -> same(seed, call, "isAbove(" + a + ", " + b + ")", told(() -> desk.isAbove(a, b)), model.isAbove(a, b));
            case 12 -> same(seed, call, "isAt(" + a + ", " + b + ")", told(() -> desk.isAt(a, b)), model.isAt(a, b));
            case 13, 14 -> {
                String what = "report(" + a + ", " + b + ", " + c + ")";
                same(seed, call, what, told(() -> desk.report(a, b, c)), model.report(a, b, c));
            }
            case 15 -> same(seed, call, "row(" + a + ", " + b + ")", told(() -> desk.row(a, b)), model.row(a, b));
            case 16, 17 -> {
                String what = "print(" + a + ", " + b + ", " + c + ")";
                same(seed, call, what, told(() -> desk.print(a, b, c)), model.print(a, b, c));
            }
            case 18 -> same(seed, call, "character(" + a + ")", told(() -> desk.character(a)), model.character(a));
            default -> rare(seed, call, a, b, c);
        }
    }

    private void letter(int seed, int call, int number, boolean gene, int i) {
        String what = "letter(" + number + ", " + gene + ", " + i + ")";
        same(seed, call, what, told(() -> desk.letter(number, gene, i)), model.letter(number, gene, i));
    }

    private void rare(int seed, int call, int a, int b, int c) {
        if (random.nextInt(60) == 0) {
            desk.clear();
            model.clear();
        } else if (random.nextInt(4) == 0) {
            same(seed, call, "feed", told(() -> desk.feed(a, b, c, b, a)), model.feed(a, b, c, b, a));
        }
    }
}
