import java.util.List;

/** Edges of what may be: the rest of part 3 of the terms, promises 45 to 49. */
final class MayBeEdges {
    private static final int[] ODD_VALUES = {-1, 1001, 1002, Integer.MIN_VALUE, Integer.MAX_VALUE};
    private static final int[] ODD_SETS = {-1, 32, 33, 63, 64, Integer.MIN_VALUE, Integer.MAX_VALUE};
    private static final String SIX = "places 6 reads 3 writes 1;keeper a at 0;keeper b at 1;keeper c at 2;keeper d at 3;"
        + "keeper e at 4;keeper f at 5;key x at 0;key s at 0 sum;";

    private MayBeEdges() {
    }

    static void run(Edge e) {
        holders(e);
        holdersRefusals(e);
        lost(e);
        lostByFew(e);
        lostSets(e);
        answersOfChoices(e);
        answersOfRows(e);
        answersOfSum(e);
        answersOfReached(e);
        answersRefusals(e);
        odds(e);
        oddsOfReads(e);
        oddsRefusals(e);
        fewestFalls(e);
        fewestOfWatcher(e);
        fewestRefusals(e);
    }

    private static void holders(Edge e) {
        e.terms("HOLDERS of a value at a KEY: the set of KEEPERS who have a TWIN with it there, or such a HINT.");
        e.says(45, "HOLDERS of a value (0 to 999; 1,000: a GRAVE) at a KEY (1; 7: a sum).");
        TwinShelf x = Edge.fallen(1);
        for (int value : new int[] {0, 1, 999, 1000}) {
            e.fine(x, "nobody has " + value, x.holders(0, value), 0);
        }
        x.put(0, 0, 0, -1);
        x.put(0, 0, 999, -1);
        x.strike(0, 2, -1);
        x.fall(1, false);
        x.put(0, 1, 1, -1);
        // a and c have all; b, who was not UP, has its own; d has a HINT for it of all but the last
        e.fine(x, "0", x.holders(0, 0), 1 | 4 | 8);
        e.fine(x, "999", x.holders(0, 999), 1 | 4 | 8);
        e.fine(x, "a GRAVE", x.holders(0, 1000), 1 | 4 | 8);
        e.fine(x, "1", x.holders(0, 1), 7);
        e.fine(x, "2, that nobody has", x.holders(0, 2), 0);
        e.fine(x, "998, that nobody has", x.holders(0, 998), 0);
        e.fine(x, "at another KEY", x.holders(1, 0), 0);
        x.fall(0, true);
        x.fall(3, true);
        e.fine(x, "those that are not UP count", x.holders(0, 999), 1 | 4 | 8);
        x.wipe(3);
        e.fine(x, "a wiped HINT does not", x.holders(0, 999), 5);
        x = Check.with(SIX);
        x.put(0, 5, 7, -1);
        e.fine(x, "all six", x.holders(0, 7), 63);
        // a HINT at another KEY is no such HINT
        x = Edge.fallen(0);
        x.put(0, 1, 7, -1);
        e.fine(x, "d has a HINT at x", x.holders(0, 7), 2 | 4 | 8);
        e.fine(x, "and none at y", x.holders(1, 7), 0);
    }

    private static void holdersRefusals(Edge e) {
        e.says(45, "(1; 7: a sum)");
        for (int odd : ODD_VALUES) {
            e.not(Edge::rich, "holders(0, " + odd + ")", x -> x.holders(0, odd), 1);
            e.not(Edge::rich, "1 ahead of 7, holders(2, " + odd + ")", x -> x.holders(2, odd), 1);
        }
        for (int odd : Edge.ODD_KEYS) {
            e.not(Edge::rich, "holders(" + odd + ", 5)", x -> x.holders(odd, 5), 1);
        }
        for (int value : new int[] {0, 999, 1000}) {
            e.not(Edge::rich, "a sum, " + value, x -> x.holders(2, value), 7);
        }
    }

    private static void lost(Edge e) {
        e.terms("LOST by a set: how many unlike couples of KEY and value (no GRAVES) there are that nobody else has (HINTS"
            + " count).");
        TwinShelf x = Check.with(Edge.FIVE);
        for (int set = 0; set < 32; set++) {
            e.fine(x, "nothing is LOST by " + set, x.lost(set), 0);
        }
        x.put(0, 0, 0, -1);
        e.fine(x, "a value 0", x.lost(7), 1);
        x.put(0, 1, 999, -1);
        e.fine(x, "a value 999", x.lost(7), 2);
        x.strike(0, 2, -1);
        e.fine(x, "no GRAVES", x.lost(7), 2);
        x.put(0, 2, 999, -1);
        e.fine(x, "the same couple", x.lost(7), 2);
        x.put(1, 3, 999, -1);
        e.fine(x, "the same value at another KEY is another's, too", x.lost(7), 2);
        e.fine(x, "another couple", x.lost(31), 3);
        x.add(2, 3, 5);
        e.fine(x, "no sums", x.lost(31), 3);
        List<String> ahead = Probe.quiet(x);
        for (int set = 0; set < 32; set++) {
            int due = ((set & 7) == 7 ? 2 : 0) + ((set & 25) == 25 ? 1 : 0);
            e.fine(x, "LOST by " + set, x.lost(set), due);
        }
        e.same("lost() changes nothing", Probe.quiet(x), ahead);
    }

    private static void lostByFew(Edge e) {
        e.terms("that nobody else has (HINTS count).");
        TwinShelf x = Edge.fallen(1, 2);
        x.put(0, 0, 7, -1);
        // a, and HINTS of d for b, of e for c
        e.fine(x, "by a alone", x.lost(1), 0);
        e.fine(x, "by a and d", x.lost(9), 0);
        e.fine(x, "by d and e", x.lost(24), 0);
        e.fine(x, "by a, d and e", x.lost(25), 1);
        x.wipe(0);
        e.fine(x, "by d and e, who have HINTS alone", x.lost(24), 1);
        x.wipe(3);
        e.fine(x, "by e", x.lost(16), 1);
        x.wipe(4);
        e.fine(x, "what nobody has is not LOST", x.lost(31), 0);
    }

    private static void lostSets(Edge e) {
        e.says(46, "LOST by a set (1).");
        for (int odd : ODD_SETS) {
            e.not(Edge::rich, "lost(" + odd + ")", x -> x.lost(odd), 1);
        }
        e.fine(new TwinShelf(), "lost(0) of no KEEPERS", new TwinShelf().lost(0), 0);
        e.not(TwinShelf::new, "lost(1) of no KEEPERS", x -> x.lost(1), 1);
        TwinShelf x = Check.with(SIX);
        x.put(0, 0, 7, -1);
        e.fine(x, "lost(62) of six", x.lost(62), 0);
        e.fine(x, "lost(63) of six", x.lost(63), 1);
        e.due("lost(64) of six", x.lost(64), -1);
        e.due("status()", x.status(), 1);
        x = Check.with(SIX.replace("key x at 0;key s at 0 sum;", "key u at 0;key v at 0;key w at 0;key x at 0;key y at 0;key z at 0;"));
        for (int key = 0; key < 6; key++) {
            e.fine(x, "lost(63) of " + key + " KEYS", x.lost(63), key);
            x.put(key, 5 - key, 7, -1);
        }
        e.fine(x, "lost(63) of six KEYS", x.lost(63), 6);
    }

    /** Each of x's six PLACES has a value of its own. */
    private static TwinShelf sixUnlike(int reads) {
        TwinShelf x = Check.with(SIX.replace("reads 3", "reads " + reads));
        for (int i = 0; i < 6; i++) {
            x.part(1 << i);
            x.put(0, i, 10 + i, -1);
            x.add(1, i, 1 << i);
        }
        x.part(0);
        return x;
    }

    private static void answersOfChoices(Edge e) {
        e.terms("ANSWERS at a KEY by a KEEPER: of all choices of R of the PLACES that it REACHES, what JOIN tells: how many unlike"
            + " rows of values there are");
        int[] choices = {6, 15, 20, 15, 6, 1};
        for (int reads = 1; reads <= 6; reads++) {
            TwinShelf x = sixUnlike(reads);
            e.fine(x, "of " + reads + " of six", x.answers(0, 3), choices[reads - 1]);
            e.fine(x, "of " + reads + " of six, of a sum", x.answers(1, 3), choices[reads - 1]);
        }
        TwinShelf x = Check.with(Edge.FIVE);
        e.fine(x, "of nothing: one row of no values", x.answers(0, 0), 1);
        e.fine(x, "by a WATCHER", x.answers(0, 4), 1);
        e.same("answers() changes nothing", Probe.quiet(x), Probe.quiet(Check.with(Edge.FIVE)));
    }

    private static TwinShelf put(String shelf, int... values) {
        TwinShelf x = Check.with(shelf);
        for (int keeper = 0; keeper < values.length; keeper++) {
            x.part(1 << keeper);
            if (values[keeper] == 1000) {
                x.strike(0, keeper, -1);
            } else if (values[keeper] >= 0) {
                x.put(0, keeper, values[keeper], -1);
            }
        }
        x.part(0);
        return x;
    }

    private static void answersOfRows(Edge e) {
        e.terms("(TWINS' values as they stand; a GRAVE as 1,000; of a sum: the sum alone)");
        String one = Edge.FIVE.replace("reads 2", "reads 1");
        TwinShelf x = put(one, 5, 5, 5);
        e.fine(x, "the same values with unlike DOTS", x.answers(0, 0), 1);
        x = put(one, 5, 6, 5);
        e.fine(x, "two like rows and one", x.answers(0, 0), 2);
        x = put(one, 999, 1000, 0);
        e.fine(x, "a GRAVE is no other value", x.answers(0, 0), 3);
        x = put(one, 1000, 1000, -1);
        e.fine(x, "two GRAVES and nothing", x.answers(0, 0), 2);
        x = put(one, 0, -1, -1);
        e.fine(x, "a value 0 and nothing", x.answers(0, 0), 2);
        // rows of which one is the beginning of the other
        x = put(one, 5, 5, -1);
        x.part(1);
        x.put(0, 0, 6, -1);
        x.part(0);
        e.fine(x, "5 6 and 5 and nothing", x.answers(0, 0), 3);
        // the order counts: 5 6 by a's two, 6 5 by b's two
        x = put(one, 5, 6, -1);
        x.part(1);
        x.put(0, 0, 6, -1);
        x.part(2);
        x.put(0, 1, 5, -1);
        x.part(0);
        e.fine(x, "5 6 and 6 5 and nothing", x.answers(0, 0), 3);
        // like rows of two values, and of three of which the last or the second is unlike
        x = put(one, 5, 5, 5);
        for (int keeper = 0; keeper < 3; keeper++) {
            x.part(1 << keeper);
            x.put(0, keeper, 6, -1);
        }
        x.part(0);
        e.fine(x, "5 6 of each", x.answers(0, 0), 1);
        for (int keeper = 0; keeper < 3; keeper++) {
            x.part(1 << keeper);
            x.put(0, keeper, 7 + keeper / 2, -1);
        }
        x.part(0);
        e.fine(x, "5 6 7 of two, 5 6 8 of one", x.answers(0, 0), 2);
        // what was told ahead of it is of no account, for a sum, or for shorter rows
        x.put(0, 0, 8, -1);
        for (int keeper = 0; keeper < 3; keeper++) {
            x.wipe(keeper);
            x.part(1 << keeper);
            x.put(0, keeper, 5, -1);
            x.put(0, keeper, 6 + keeper, -1);
        }
        x.part(0);
        e.fine(x, "5 6, 5 7 and 5 8", x.answers(0, 0), 3);
        x.add(2, 2, 3);
        e.fine(x, "of a sum, behind these", x.answers(2, 0), 1);
        for (int keeper = 0; keeper < 3; keeper++) {
            x.wipe(keeper);
            x.part(1 << keeper);
            x.put(0, keeper, 5, -1);
        }
        x.part(0);
        e.fine(x, "5 of each, behind these", x.answers(0, 0), 1);
        // unlike in SEEN alone
        x = Edge.fallen(1);
        x.strike(0, 0, -1);
        x.fall(1, false);
        x.night(0, 1);
        x.bury(0);
        x.wipe(1);
        e.fine(x, "unlike in SEEN alone", x.answers(0, 0), 1);
    }

    private static void answersOfSum(Edge e) {
        e.terms("of a sum: the sum alone");
        // s: c d e
        TwinShelf x = Check.with(Edge.FIVE.replace("reads 2", "reads 1"));
        x.part(4);
        x.add(2, 2, 3);
        x.part(8);
        x.add(2, 3, 1);
        x.add(2, 3, 2);
        x.part(0);
        e.fine(x, "3, 3 and 0, with unlike PARTS", x.answers(2, 0), 2);
        x.part(16);
        x.add(2, 4, 3);
        x.part(0);
        e.fine(x, "3, 3 and 3", x.answers(2, 0), 1);
    }

    private static void answersOfReached(Edge e) {
        e.terms("of all choices of R of the PLACES that it REACHES");
        TwinShelf x = put(Edge.FIVE, 10, 11, 12);
        e.fine(x, "two of three", x.answers(0, 3), 3);
        x.fall(0, true);
        e.fine(x, "two of two", x.answers(0, 3), 1);
        x.fall(0, false);
        x.part(1 | 8);
        e.due("two of one", x.answers(0, 3), -1);
        e.due("status()", x.status(), 7);
        e.fine(x, "two of the two others", x.answers(0, 4), 1);
        x.part(7);
        e.due("two of none", x.answers(0, 3), -1);
        e.due("status()", x.status(), 7);
        x = sixUnlike(3);
        x.fall(5, true);
        e.fine(x, "three of five", x.answers(0, 0), 10);
        x.part(1 | 2 | 4 | 8);
        e.fine(x, "three of four", x.answers(0, 0), 4);
        x.part(1 | 4 | 8);
        e.fine(x, "three of three", x.answers(0, 0), 1);
        x.part(1 | 8);
        e.due("three of two", x.answers(0, 0), -1);
        e.due("status()", x.status(), 7);
    }

    private static void answersRefusals(Edge e) {
        e.says(47, "ANSWERS (1; 7: the KEEPER is not UP, does not REACH so many).");
        for (int odd : Edge.ODD_KEYS) {
            e.not(Edge::rich, "answers(" + odd + ", 0)", x -> x.answers(odd, 0), 1);
        }
        for (int odd : Edge.ODD_KEEPERS) {
            e.not(Edge::rich, "answers(0, " + odd + ")", x -> x.answers(0, odd), 1);
        }
        e.not(Edge::rich, "not UP", x -> x.answers(0, 2), 7);
        e.not(Edge::rich, "does not REACH so many", x -> x.answers(0, 4), 7);
        e.not(Edge::rich, "not UP, of a sum", x -> x.answers(2, 2), 7);
        e.not(Edge::rich, "1 ahead of 7", x -> x.answers(3, 2), 1);
        e.not(() -> Check.with("key x at 0;"), "no KEEPERS", x -> x.answers(0, 0), 1);
        e.not(() -> Check.with("places 3 reads 3 writes 1;keeper a at 0;keeper b at 1;key x at 0;"),
            "more reads than KEEPERS", x -> x.answers(0, 0), 7);
    }

    private static void fraction(Edge e, TwinShelf x, int key, int keeper, int value, int top, int bottom) {
        String call = "odds(" + key + ", " + keeper + ", " + value + ")";
        e.fine(x, call, x.odds(key, keeper, value));
        e.due("top() of " + call, x.top(), top);
        e.due("bottom() of " + call, x.bottom(), bottom);
    }

    private static void odds(Edge e) {
        e.terms("ODDS of a value: in how many of all these choices it is told.");
        e.terms("FRACTIONS are told by top() and bottom() without a common divisor, the bottom above 0; 0 is 0 by 1.");
        TwinShelf x = put(Edge.FIVE, 0, 999, 1000);
        for (int value : new int[] {0, 999, 1000}) {
            fraction(e, x, 0, 3, value, 2, 3);
        }
        for (int value : new int[] {1, 998}) {
            fraction(e, x, 0, 3, value, 0, 1);
        }
        x.fall(2, true);
        fraction(e, x, 0, 3, 0, 1, 1);
        fraction(e, x, 0, 3, 1000, 0, 1);
        x = put(Edge.FIVE, 5, 5, 5);
        fraction(e, x, 0, 0, 5, 1, 1);
        x = put(Edge.FIVE);
        fraction(e, x, 0, 0, 5, 0, 1);
        // told by JOIN: what another one of those asked has SEEN, and has no more, is not told
        x = put(Edge.FIVE, 5, -1, -1);
        x.night(0, 1);
        x.get(0, 1, 0);
        x.part(2);
        x.put(0, 1, 6, 0);
        x.part(0);
        x.get(0, 4, -1);
        List<String> ahead = Probe.kept(x);
        // a and b were asked and have 6; c has nothing
        fraction(e, x, 0, 0, 5, 0, 1);
        fraction(e, x, 0, 0, 6, 1, 1);
        e.same("odds() changes the FRACTION alone", Probe.kept(x), ahead);
        x = put(Edge.FIVE, 5, -1, -1);
        x.night(0, 1);
        x.get(0, 1, 0);
        x.part(2);
        x.put(0, 1, 6, 0);
        x.part(0);
        // a, c: 5; a, b: 6; b, c: 6
        fraction(e, x, 0, 0, 5, 1, 3);
        fraction(e, x, 0, 0, 6, 2, 3);
    }

    private static void oddsOfReads(Edge e) {
        e.terms("in how many of all these choices it is told.");
        int[][] due = {{1, 6}, {1, 3}, {1, 2}, {2, 3}, {5, 6}, {1, 1}};
        for (int reads = 1; reads <= 6; reads++) {
            TwinShelf x = sixUnlike(reads);
            fraction(e, x, 0, 2, 10, due[reads - 1][0], due[reads - 1][1]);
            fraction(e, x, 0, 2, 15, due[reads - 1][0], due[reads - 1][1]);
        }
        TwinShelf x = sixUnlike(3);
        x.fall(5, true);
        fraction(e, x, 0, 0, 10, 3, 5);
        fraction(e, x, 0, 0, 15, 0, 1);
    }

    private static void oddsRefusals(Edge e) {
        e.says(48, "The FRACTION is ODDS of a value (as holders()) (1; 7: likewise, a sum).");
        for (int odd : ODD_VALUES) {
            e.not(Edge::rich, "odds(0, 0, " + odd + ")", x -> x.odds(0, 0, odd), 1);
            e.not(Edge::rich, "1 ahead of 7, odds(2, 2, " + odd + ")", x -> x.odds(2, 2, odd), 1);
        }
        for (int odd : Edge.ODD_KEYS) {
            e.not(Edge::rich, "odds(" + odd + ", 0, 5)", x -> x.odds(odd, 0, 5), 1);
        }
        for (int odd : Edge.ODD_KEEPERS) {
            e.not(Edge::rich, "odds(0, " + odd + ", 5)", x -> x.odds(0, odd, 5), 1);
        }
        e.not(Edge::rich, "not UP", x -> x.odds(0, 2, 5), 7);
        e.not(Edge::rich, "does not REACH so many", x -> x.odds(0, 4, 5), 7);
        e.not(() -> Check.with(Edge.FIVE), "a sum", x -> x.odds(2, 2, 5), 7);
    }

    private static void fewestFalls(Edge e) {
        e.terms("FEWEST FALLS for a KEY and a KEEPER: the fewest other KEEPERS that must FALL so that its GET can't be.");
        // by one of its own PLACES: all but R - 1 of the six must be gone, itself never
        for (int reads = 1; reads <= 6; reads++) {
            TwinShelf x = Check.with(SIX.replace("reads 3", "reads " + reads));
            for (int up = 6; up >= reads; up--) {
                int due = up - reads + 1;
                String call = "reads " + reads + " of " + up;
                if (due > up - 1) {
                    e.due(call, x.fewestFalls(0, 0), -1);
                    e.due("status()", x.status(), 6);
                } else {
                    e.fine(x, call, x.fewestFalls(0, 0), due);
                    e.fine(x, call + ", of a sum", x.fewestFalls(1, 0), due);
                }
                x.fall(up - 1, true);
            }
        }
        TwinShelf x = Check.with(Edge.FIVE);
        x.part(1 | 2);
        List<String> ahead = Probe.quiet(x);
        e.fine(x, "those that it does not REACH need not FALL", x.fewestFalls(0, 0), 1);
        e.same("fewestFalls() changes nothing", Probe.quiet(x), ahead);
        e.fine(x, "it can be as it is", x.get(0, 0, -1), 0);
    }

    private static void fewestOfWatcher(Edge e) {
        e.terms("the fewest other KEEPERS that must FALL");
        for (int reads = 1; reads <= 5; reads++) {
            TwinShelf x = Check.with(SIX.replace("places 6 reads 3", "places 5 reads " + reads));
            e.fine(x, "by a WATCHER, reads " + reads + " of 5", x.fewestFalls(0, 5), 6 - reads);
            // they FALL one by one, and then it can't be
            for (int fallen = 0; fallen < 6 - reads; fallen++) {
                e.due("get() can be", x.get(0, 5, -1) >= 0, true);
                e.fine(x, "the others", x.fewestFalls(0, 5), 6 - reads - fallen);
                x.fall(fallen, true);
            }
            e.due("get() can't be", x.get(0, 5, -1), -1);
            e.due("status()", x.status(), 7);
            e.due("it can't be as it is", x.fewestFalls(0, 5), -1);
            e.due("status()", x.status(), 7);
        }
    }

    private static TwinShelf readsOne() {
        TwinShelf x = Check.with("places 2 reads 1 writes 1;keeper a at 0;keeper b at 1;keeper c at 2;key x at 0;key s at 0 sum;");
        x.put(0, 0, 1, -1);
        return x;
    }

    private static void fewestRefusals(Edge e) {
        e.says(49, "FEWEST FALLS (1; 6: not even if all others FALL; 7: it can't be as it is).");
        for (int odd : Edge.ODD_KEYS) {
            e.not(Edge::rich, "fewestFalls(" + odd + ", 0)", x -> x.fewestFalls(odd, 0), 1);
        }
        for (int odd : Edge.ODD_KEEPERS) {
            e.not(Edge::rich, "fewestFalls(0, " + odd + ")", x -> x.fewestFalls(0, odd), 1);
        }
        e.not(Edge::rich, "1 ahead of 7", x -> x.fewestFalls(3, 2), 1);
        e.not(MayBeEdges::readsOne, "a has it itself", x -> x.fewestFalls(0, 0), 6);
        e.not(MayBeEdges::readsOne, "b has it itself", x -> x.fewestFalls(0, 1), 6);
        e.not(MayBeEdges::readsOne, "a has the sum itself", x -> x.fewestFalls(1, 0), 6);
        TwinShelf x = readsOne();
        e.fine(x, "c has not", x.fewestFalls(0, 2), 2);
        e.not(Edge::rich, "not UP", y -> y.fewestFalls(0, 2), 7);
        e.not(Edge::rich, "does not REACH so many", y -> y.fewestFalls(0, 4), 7);
        e.not(() -> Check.with("places 3 reads 3 writes 1;keeper a at 0;keeper b at 1;key x at 0;"),
            "more reads than KEEPERS", y -> y.fewestFalls(0, 0), 7);
    }
}
