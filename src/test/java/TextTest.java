/** Promises 2 to 4: the text comes, is cut and is run. */
public final class TextTest {
    public static void main(String[] args) {
        bytesOfNumbers();
        fullText();
        trimming();
        wrongTrims();
        linesDone();
        usedUp();
        allKindsOfLines();
        Checks.end();
    }

    private static void bytesOfNumbers() {
        TermDesk desk = new TermDesk();
        // "term abcdefghij\ngene" and " k\n", the highest byte of each number first
        Checks.same("feed", desk.feed(0x7465726d, 0x20616263, 0x64656667, 0x68696a0a, 0x67656e65), 20);
        Checks.same("feed", desk.feed(0x206b0a00, 0, 0, 0, -1), 40);
        Checks.same("trim", desk.trim(17), 23);
        Checks.same("run", desk.run(), 2);
        Checks.same("the term", Checks.name(desk, 0, false), "abcdefghij");
        Checks.same("the gene", Checks.name(desk, 0, true), "k");
    }

    /** 40000 bytes are more than 512 calls feed, but the class is to keep the limit all the same. */
    private static void fullText() {
        TermDesk desk = new TermDesk();
        int length = 0;
        for (int i = 0; i < 2000; i++) {
            length = desk.feed(0x0a0a0a0a, 0x0a0a0a0a, 0x0a0a0a0a, 0x0a0a0a0a, 0x0a0a0a0a);
        }
        Checks.same("a full text", length, 40000);
        Checks.refused("feed beyond it", IllegalStateException.class, desk, () -> desk.feed(0, 0, 0, 0, 0));
        Checks.same("trim", desk.trim(19), 39981);
        Checks.refused("feed one beyond it", IllegalStateException.class, desk, () -> desk.feed(0, 0, 0, 0, 0));
        Checks.same("trim", desk.trim(1), 39980);
        Checks.same("feed", desk.feed(0x0a0a0a0a, 0x0a0a0a0a, 0x0a0a0a0a, 0x0a0a0a0a, 0x0a0a0a0a), 40000);
        Checks.same("run", desk.run(), 40000);
    }

    private static void trimming() {
        TermDesk desk = new TermDesk();
        Checks.same("trim of nothing", desk.trim(0), 0);
        Checks.feed(desk, "term abcdefg");
        Checks.same("trim", desk.trim(3), 9);
        Checks.same("trim of nothing", desk.trim(0), 9);
        Checks.same("more", Checks.feed(desk, "XY"), 11);
        Checks.same("run", desk.run(), 1);
        Checks.same("the term", Checks.name(desk, 0, false), "abcdXY");
        Checks.feed(desk, "term abcdefghijk nopq");
        Checks.same("trim of 20", desk.trim(20), 1);
        Checks.same("trim of all", desk.trim(1), 0);
    }

    private static void wrongTrims() {
        TermDesk desk = new TermDesk();
        Class<IllegalArgumentException> due = IllegalArgumentException.class;
        Checks.refused("trim of an empty text", due, desk, () -> desk.trim(1));
        Checks.feed(desk, "term abc");
        Checks.refused("trim of too many", due, desk, () -> desk.trim(9));
        Checks.refused("trim below 0", due, desk, () -> desk.trim(-1));
        Checks.refused("trim of the least number", due, desk, () -> desk.trim(Integer.MIN_VALUE));
        Checks.feed(desk, "\nterm def\nterm ghi\nterm jkl");
        Checks.refused("trim of 21", due, desk, () -> desk.trim(21));
        Checks.refused("trim of the greatest number", due, desk, () -> desk.trim(Integer.MAX_VALUE));
        Checks.same("the text is whole", desk.run(), 4);
    }

    private static void linesDone() {
        TermDesk desk = new TermDesk();
        Checks.same("an empty text", desk.run(), 0);
        Checks.same("an empty line", Checks.run(desk, "\n"), 1);
        Checks.same("empty lines", Checks.run(desk, "\n\n\n"), 3);
        Checks.same("a last line without an end", Checks.run(desk, "\nterm a"), 2);
        Checks.same("a last line with its end", Checks.run(desk, "term b\n\n"), 2);
        Checks.same("lines before a fault", Checks.run(desk, "term c\n\nterm a\nterm d\n"), 2);
        Checks.same("the terms", desk.about(0), 3);
        Checks.same("none behind it is done", Checks.run(desk, "term d"), 1);
    }

    private static void usedUp() {
        TermDesk desk = new TermDesk();
        Checks.run(desk, "term a\n");
        Checks.same("the text behind a run", desk.trim(0), 0);
        Checks.run(desk, "term a\nterm b");
        Checks.same("the text behind a fault", desk.trim(0), 0);
        Checks.same("the next run", desk.run(), 0);
        Checks.same("the places start anew", Checks.run(desk, "\nx"), 1);
        Checks.same("the place", desk.fault(1), 1);
    }

    private static void allKindsOfLines() {
        TermDesk desk = Checks.desk("term a\nterm b\nterm c\nalias A a\nisa c A\npart b a\nisa b a\npart c a\ngene g\n"
            + "gene h\nnote g b\nnote g b\nnot g b\nnot h a\nstudy g\nstudy g\nold c\nold c\n");
        Checks.same("the state", Checks.state(desk), "text 0 printed  fault 0 -1 about 3 2 1 2 0 2 1 4 "
            + "term a 0 0 2 1 1 0 0 term b 1 1 0 1 1 0 1 term c 1 1 0 0 0 1 1 gene g gene h");
    }
}
