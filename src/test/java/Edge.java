import java.io.IOException;
import java.nio.file.Path;
import java.util.ArrayList;
import java.util.List;

/**
 * What the edge tests share: the document's sentence in hand, and refusals, each of which must tell its STATUS and
 * change nothing else. To see that, the same object is made anew, with the refused call and without it.
 */
final class Edge {
    interface Made {
        TwinShelf make();
    }

    interface Call {
        Object on(TwinShelf x);
    }

    /** Rows: x a b c d e, y d e a b c, s c d e a b; the first three of each are its places. */
    static final String FIVE = "places 3 reads 2 writes 3;keeper a at 0;keeper b at 100;keeper c at 200;"
        + "keeper d at 300;keeper e at 400;key x at 0;key y at 250;key s at 150 sum;";

    /** Numbers that are no KEEPER, KEY, TICKET of FIVE, below and above. */
    static final int[] ODD_KEEPERS = {-1, 5, 6, Integer.MIN_VALUE, Integer.MAX_VALUE};
    static final int[] ODD_KEYS = {-1, 3, 6, Integer.MIN_VALUE, Integer.MAX_VALUE};
    static final int[] ODD_TICKETS = {-2, 4, 5, Integer.MIN_VALUE, Integer.MAX_VALUE};

    private final Check check;
    private final Doc doc;
    private String sentence = "";

    Edge(Check check, Path document) throws IOException {
        this.check = check;
        doc = new Doc(document);
    }

    /** From here on answers are due by this sentence, word for word, of a promise (or of the terms: 0). */
    void says(int promise, String words) {
        sentence = (promise == Doc.TERMS ? "Terms" : "Promise " + promise) + ": '" + words + "': ";
        check.due(sentence + "stands in the document", doc.quote(promise, words), true);
    }

    void terms(String words) {
        says(Doc.TERMS, words);
    }

    void allQuoted() {
        check.due("promises without a sentence in the edge tests: " + doc.unquoted(), doc.unquoted().size(), 0);
    }

    void due(String what, long got, long want) {
        check.due(sentence + what, got, want);
    }

    void due(String what, boolean got, boolean want) {
        check.due(sentence + what, got, want);
    }

    void fine(TwinShelf x, String what, long got, long want) {
        check.fine(x, sentence + what, got, want);
    }

    void fine(TwinShelf x, String what, boolean got) {
        check.fine(x, sentence + what, got);
    }

    /** The call gives NONE (or false) with that STATUS, and the object is as without it. */
    void not(Made made, String what, Call call, int status) {
        TwinShelf x = made.make();
        Object answer = call.on(x);
        due(what + " is refused", isNone(answer), true);
        due("status() behind " + what, x.status(), status);
        same(what + " changes what is told", Probe.quiet(x), Probe.quiet(made.make()));
        TwinShelf y = made.make();
        call.on(y);
        same(what + " changes what is done", Probe.deep(y), Probe.deep(made.make()));
    }

    /** A text that is refused: the FAULT and its place; the tape is empty, and nothing else is changed. */
    void faulty(Made made, String what, Call call, int kind, int place) {
        TwinShelf x = made.make();
        Object answer = call.on(x);
        due(what + " is refused", isNone(answer), true);
        due("status() behind " + what, x.status(), 9);
        due("fault(0) of " + what, x.fault(0), kind);
        due("fault(1) of " + what, x.fault(1), place);
        due("the tape behind " + what, x.feed(0, 0, 0, 0, 0), 20);
        same(what + " changes what is told", without("fault", Probe.quiet(x)), without("fault", Probe.quiet(made.make())));
        TwinShelf y = made.make();
        call.on(y);
        same(what + " changes what is done", without("tape", Probe.deep(y)), without("tape", Probe.deep(made.make())));
    }

    void same(String what, List<String> got, List<String> want) {
        due(what + ", lines", got.size(), want.size());
        for (int i = 0; i < Math.min(got.size(), want.size()); i++) {
            if (!got.get(i).equals(want.get(i))) {
                due(what + ": '" + got.get(i) + "' in place of '" + want.get(i) + "'", 1, 0);
                return;
            }
        }
    }

    private static List<String> without(String begin, List<String> lines) {
        List<String> left = new ArrayList<>(lines);
        left.removeIf(line -> line.startsWith(begin));
        return left;
    }

    private static boolean isNone(Object answer) {
        return answer instanceof Boolean is ? !is : ((Number) answer).longValue() == -1;
    }

    /** The value, the KEEPER and the count of the k-th TWIN. */
    void twin(TwinShelf x, int keeper, int key, int k, int... due) {
        for (int what = 0; what < 3; what++) {
            String call = "twin(" + keeper + ", " + key + ", " + k + ", " + what + ")";
            fine(x, call, x.twin(keeper, key, k, what), due[what]);
        }
    }

    /** FIVE, some of whose KEEPERS are not UP. */
    static TwinShelf fallen(int... keepers) {
        TwinShelf x = Check.with(FIVE);
        for (int keeper : keepers) {
            x.fall(keeper, true);
        }
        return x;
    }

    /** Some of everything: twins, graves, parts, hints, tickets, days that were lived, marks, trays, a fraction. */
    static TwinShelf rich() {
        TwinShelf x = Check.with(FIVE);
        Check.days(x, "loop 2;put x at a 9;get y at d;end;storm 7;");
        x.tray(0, 0, 3);
        x.write(0, 2, -1);
        x.tray(1, 1, 0);
        x.tray(2, 3, 2);
        x.write(2, 1, 1L << 40);
        x.put(0, 0, 5, -1);
        x.get(0, 1, 1);
        x.put(1, 3, 6, -1);
        x.get(1, 4, 2);
        x.mark();
        x.live(3);
        for (int keeper = 0; keeper < 5; keeper++) {
            x.fall(keeper, keeper == 2);
        }
        x.strike(0, 1, -1);
        x.put(0, 0, 7, 1);
        x.add(2, 3, 40);
        x.part(16);
        x.put(1, 0, 8, 2);
        x.mark();
        x.odds(0, 0, 7);
        x.get(0, 0, -1);
        return x;
    }

    /** As rich(), and a text of 40 bytes on the tape. */
    static TwinShelf richFed() {
        TwinShelf x = rich();
        Check.feed(x, "keeper q at 1; keeper r at 2; key z at 3");
        return x;
    }
}
