/** What the tests share: it compares answers with those that are due, and ends with exit code 1 if one is wrong. */
final class Check {
    private final String name;
    private int asked = 0;
    private int wrong = 0;

    Check(String name) {
        this.name = name;
    }

    void due(String what, long got, long want) {
        asked++;
        if (got != want) {
            wrong++;
            System.out.println(name + ": " + what + " answered " + got + ", due is " + want);
        }
    }

    void due(String what, boolean got, boolean want) {
        due(what, got ? 1 : 0, want ? 1 : 0);
    }

    /** An answer with STATUS 0. */
    void fine(TwinShelf x, String what, long got, long want) {
        due(what, got, want);
        due("status() behind " + what, x.status(), 0);
    }

    void fine(TwinShelf x, String what, boolean got) {
        fine(x, what, got ? 1 : 0, 1);
    }

    /** NONE with another STATUS. */
    void not(TwinShelf x, String what, long got, int status) {
        due(what, got, -1);
        due("status() behind " + what, x.status(), status);
    }

    void not(TwinShelf x, String what, boolean got, int status) {
        due(what, got, false);
        due("status() behind " + what, x.status(), status);
    }

    static void feed(TwinShelf x, String text) {
        for (int i = 0; i < text.length(); i += 20) {
            x.feed(four(text, i), four(text, i + 4), four(text, i + 8), four(text, i + 12), four(text, i + 16));
        }
    }

    private static int four(String text, int from) {
        int v = 0;
        for (int i = from; i < from + 4; i++) {
            v = v << 8 | (i < text.length() ? text.charAt(i) & 255 : 0);
        }
        return v;
    }

    static int shelf(TwinShelf x, String text) {
        feed(x, text);
        return x.shelf(text.length());
    }

    static int days(TwinShelf x, String text) {
        feed(x, text);
        return x.days(text.length());
    }

    static TwinShelf with(String shelf) {
        TwinShelf x = new TwinShelf();
        if (shelf(x, shelf) < 0) {
            System.out.println("a test's own shelf is refused: " + shelf);
            System.exit(1);
        }
        return x;
    }

    void end() {
        System.out.println(name + ": " + asked + " answers, " + wrong + " wrong");
        if (wrong != 0) {
            System.exit(1);
        }
    }
}
