/** Promises 3, 4 and 45 to 49: top, bottom, holders, lost, answers, odds, fewestFalls. */
public final class MayBeTest {
    private static final Check CHECK = new Check("MayBeTest");
    /** Rows: x a b c d e, y d e a b c, s c d e a b; the first three of each are its places. */
    private static final String FIVE = "places 3 reads 2 writes 3;keeper a at 0;keeper b at 100;keeper c at 200;"
        + "keeper d at 300;keeper e at 400;key x at 0;key y at 250;key s at 150 sum;";

    public static void main(String[] args) {
        holders();
        lost();
        answers();
        odds();
        oddsOfSix();
        fewestFalls();
        CHECK.end();
    }

    private static void holders() {
        TwinShelf x = Check.with(FIVE);
        CHECK.fine(x, "holders(0, 5) of none", x.holders(0, 5), 0);
        x.fall(2, true);
        x.put(0, 0, 5, -1);
        CHECK.fine(x, "holders(0, 5): a, b, and d by a hint", x.holders(0, 5), 11);
        CHECK.fine(x, "holders(1, 5)", x.holders(1, 5), 0);
        CHECK.fine(x, "holders(0, 1000)", x.holders(0, 1000), 0);
        x.strike(0, 1, -1);
        CHECK.fine(x, "holders(0, 1000)", x.holders(0, 1000), 11);
        x.fall(2, false);
        x.hand();
        CHECK.fine(x, "holders(0, 5), handed on", x.holders(0, 5), 7);
        CHECK.fine(x, "holders(0, 0)", x.holders(0, 0), 0);
        CHECK.not(x, "holders(2, 5) of a sum", x.holders(2, 5), 7);
        CHECK.not(x, "holders(0, 1001)", x.holders(0, 1001), 1);
        CHECK.not(x, "holders(0, -1)", x.holders(0, -1), 1);
        CHECK.not(x, "holders(3, 0)", x.holders(3, 0), 1);
        CHECK.not(x, "holders(-1, 0)", x.holders(-1, 0), 1);
    }

    private static void lost() {
        TwinShelf x = Check.with(FIVE);
        CHECK.fine(x, "lost(31) of nothing", x.lost(31), 0);
        x.part(1);
        x.put(0, 0, 5, -1);
        x.put(0, 0, 5, -1);
        x.put(0, 0, 6, -1);
        x.strike(0, 0, -1);
        x.put(1, 0, 5, -1);
        CHECK.fine(x, "lost(0)", x.lost(0), 0);
        CHECK.fine(x, "lost(1): 5 and 6 at x, 5 at y", x.lost(1), 3);
        CHECK.fine(x, "lost(30)", x.lost(30), 0);
        x.part(1 | 8);
        x.put(0, 0, 7, -1);
        // d has a hint with all that a has at x
        CHECK.fine(x, "lost(1)", x.lost(1), 1);
        CHECK.fine(x, "lost(9)", x.lost(9), 4);
        x.put(0, 1, 7, -1);
        CHECK.fine(x, "lost(9): b and c have a 7, too", x.lost(9), 3);
        CHECK.fine(x, "lost(31)", x.lost(31), 4);
        x.add(2, 3, 5);
        CHECK.fine(x, "lost(31): no sums", x.lost(31), 4);
        x.put(1, 3, 999, -1);
        x.put(1, 3, 0, -1);
        CHECK.fine(x, "lost(31): 0 and 999, too", x.lost(31), 6);
        CHECK.not(x, "lost(32)", x.lost(32), 1);
        CHECK.not(x, "lost(-1)", x.lost(-1), 1);
        CHECK.not(x, "lost(min)", x.lost(Integer.MIN_VALUE), 1);
    }

    private static void answers() {
        TwinShelf x = Check.with(FIVE);
        CHECK.fine(x, "answers(0, 4) of nothing", x.answers(0, 4), 1);
        x.part(1);
        x.put(0, 0, 5, -1);
        x.part(2);
        x.put(0, 1, 5, -1);
        x.part(0);
        // a and b: 5 5; a and c: 5; b and c: 5
        CHECK.fine(x, "answers(0, 4): unlike rows of values", x.answers(0, 4), 2);
        x.part(4);
        x.strike(0, 2, -1);
        x.part(0);
        // 5 5; 5 1,000; 5 1,000
        CHECK.fine(x, "answers(0, 4)", x.answers(0, 4), 2);
        x.part(4);
        x.put(0, 2, 1, -1);
        x.part(2);
        x.put(0, 1, 9, -1);
        x.part(0);
        // 5 5 9; 5 1,000 1; 5 9 1,000 1
        CHECK.fine(x, "answers(0, 4)", x.answers(0, 4), 3);
        CHECK.fine(x, "nothing is changed", x.alike() & 1, 0);
        x.fall(0, true);
        CHECK.fine(x, "one choice", x.answers(0, 4), 1);
        CHECK.not(x, "a is not up", x.answers(0, 0), 7);
        x.fall(1, true);
        CHECK.not(x, "too few", x.answers(0, 4), 7);
        CHECK.not(x, "answers(3, 0)", x.answers(3, 0), 1);
        CHECK.not(x, "answers(0, 5)", x.answers(0, 5), 1);
        CHECK.not(x, "answers(0, -1)", x.answers(0, -1), 1);
        x = Check.with(FIVE);
        x.part(4);
        x.add(2, 2, 3);
        x.part(8);
        x.add(2, 3, 3);
        x.part(0);
        // c d: 6; c e: 3; d e: 3
        CHECK.fine(x, "answers(2, 0) of a sum", x.answers(2, 0), 2);
    }

    private static void fraction(TwinShelf x, String what, long top, long bottom) {
        CHECK.due("top() " + what, x.top(), top);
        CHECK.due("bottom() " + what, x.bottom(), bottom);
    }

    private static void odds() {
        TwinShelf x = Check.with(FIVE);
        CHECK.fine(x, "odds(0, 0, 5)", x.odds(0, 0, 5));
        fraction(x, "of nothing", 0, 1);
        x.part(1);
        x.put(0, 0, 5, -1);
        x.strike(0, 0, -1);
        x.part(0);
        CHECK.fine(x, "odds(0, 0, 5)", x.odds(0, 0, 5));
        fraction(x, "of 5", 2, 3);
        CHECK.fine(x, "odds(0, 0, 1000)", x.odds(0, 0, 1000));
        fraction(x, "of a grave", 2, 3);
        x.put(0, 0, 0, -1);
        CHECK.fine(x, "odds(0, 0, 0)", x.odds(0, 0, 0));
        fraction(x, "of 0", 1, 1);
        x.odds(0, 0, 1000);
        x.odds(0, 0, 6);
        fraction(x, "of none", 0, 1);
        x = Check.with(FIVE);
        x.part(1);
        x.put(0, 0, 5, -1);
        x.part(0);
        x.odds(0, 0, 5);
        CHECK.not(x, "odds(0, 0, 1001)", x.odds(0, 0, 1001), 1);
        CHECK.not(x, "odds(0, 0, -1)", x.odds(0, 0, -1), 1);
        CHECK.not(x, "odds(0, 5, 1)", x.odds(0, 5, 1), 1);
        CHECK.not(x, "odds(3, 0, 1)", x.odds(3, 0, 1), 1);
        CHECK.not(x, "odds(2, 0, 1) of a sum", x.odds(2, 0, 1), 7);
        x.fall(1, true);
        x.fall(2, true);
        CHECK.not(x, "too few", x.odds(0, 0, 5), 7);
        x.fall(2, false);
        x.fall(4, true);
        CHECK.not(x, "not up", x.odds(0, 4, 5), 7);
        fraction(x, "stays behind refusals", 2, 3);
        CHECK.fine(x, "odds(0, 3, 5)", x.odds(0, 3, 5));
        fraction(x, "of the one choice", 1, 1);
    }

    private static void oddsOfSix() {
        TwinShelf x = Check.with("places 6 reads 3 writes 1;keeper a at 0;keeper b at 1;keeper c at 2;keeper d at 3;"
            + "keeper e at 4;keeper f at 5;key x at 0;");
        for (int i = 0; i < 6; i++) {
            x.part(1 << i);
            x.put(0, i, i < 2 ? 50 : i, -1);
        }
        x.part(0);
        CHECK.fine(x, "answers(0, 0)", x.answers(0, 0), 14);
        CHECK.fine(x, "odds(0, 0, 3)", x.odds(0, 0, 3));
        fraction(x, "of one of six", 1, 2);
        CHECK.fine(x, "odds(0, 0, 50)", x.odds(0, 0, 50));
        fraction(x, "of two of six", 4, 5);
    }

    private static void fewestFalls() {
        TwinShelf x = Check.with(FIVE);
        CHECK.fine(x, "fewestFalls(0, 4): two of three", x.fewestFalls(0, 4), 2);
        CHECK.fine(x, "fewestFalls(0, 0)", x.fewestFalls(0, 0), 2);
        x.fall(1, true);
        CHECK.fine(x, "fewestFalls(0, 0)", x.fewestFalls(0, 0), 1);
        x.fall(2, true);
        CHECK.not(x, "it can't be as it is", x.fewestFalls(0, 0), 7);
        x.fall(2, false);
        x.fall(4, true);
        CHECK.not(x, "not up", x.fewestFalls(0, 4), 7);
        CHECK.not(x, "fewestFalls(3, 0)", x.fewestFalls(3, 0), 1);
        CHECK.not(x, "fewestFalls(0, 5)", x.fewestFalls(0, 5), 1);
        CHECK.not(x, "fewestFalls(-1, 0)", x.fewestFalls(-1, 0), 1);
        x = Check.with("places 2 reads 1 writes 1;keeper a at 0;keeper b at 1;keeper c at 2;key x at 0;");
        CHECK.not(x, "a has it itself", x.fewestFalls(0, 0), 6);
        CHECK.fine(x, "c has not", x.fewestFalls(0, 2), 2);
        x.part(1);
        CHECK.fine(x, "c reaches b alone", x.fewestFalls(0, 2), 1);
        CHECK.not(x, "a alone", x.fewestFalls(0, 0), 6);
    }
}
