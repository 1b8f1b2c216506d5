/** Promises 50 to 54: live, lived, agreed, mark, back. */
public final class LifeTest {
    private static final Check CHECK = new Check("LifeTest");
    /** Rows: x a b c d e, y d e a b c, s c d e a b; the first three of each are its places. */
    private static final String FIVE = "places 3 reads 2 writes 3;keeper a at 0;keeper b at 100;keeper c at 200;"
        + "keeper d at 300;keeper e at 400;key x at 0;key y at 250;key s at 150 sum;";

    public static void main(String[] args) {
        refusals();
        steps();
        ticketNought();
        misses();
        nightsOfOne();
        loops();
        whens();
        stops();
        threeHundred();
        storms();
        agreed();
        marks();
        marksKeepAll();
        CHECK.end();
    }

    private static TwinShelf with(String days) {
        TwinShelf x = Check.with(FIVE);
        if (Check.days(x, days) < 0) {
            System.out.println("a test's own days are refused: " + days);
            System.exit(1);
        }
        return x;
    }

    private static void lived(TwinShelf x, int... due) {
        for (int what = 0; what < 6; what++) {
            CHECK.fine(x, "lived(" + what + ")", x.lived(what), due[what]);
        }
    }

    private static void refusals() {
        TwinShelf x = Check.with(FIVE);
        CHECK.not(x, "live(0)", x.live(0), 6);
        CHECK.not(x, "live(-1)", x.live(-1), 1);
        CHECK.not(x, "live(10000)", x.live(10000), 1);
        CHECK.not(x, "lived(0)", x.lived(0), 6);
        CHECK.not(x, "lived(6)", x.lived(6), 1);
        CHECK.not(x, "lived(-1)", x.lived(-1), 1);
        CHECK.not(x, "agreed(0, 1)", x.agreed(0, 1), 6);
        CHECK.not(x, "agreed(-1, 1)", x.agreed(-1, 1), 1);
        CHECK.not(x, "agreed(0, 0)", x.agreed(0, 0), 1);
        CHECK.not(x, "agreed(0, 21)", x.agreed(0, 21), 1);
        CHECK.not(x, "agreed(9999, 2)", x.agreed(9999, 2), 1);
        CHECK.not(x, "agreed(9981, 20)", x.agreed(9981, 20), 1);
        CHECK.not(x, "agreed(max, 20)", x.agreed(Integer.MAX_VALUE, 20), 1);
        CHECK.fine(x, "days(0)", x.days(0), 0);
        CHECK.fine(x, "agreed(9980, 20)", x.agreed(9980, 20));
        CHECK.not(x, "agreed() is no live()", x.lived(0), 6);
        CHECK.fine(x, "live(0) of no steps", x.live(0), 0);
        CHECK.fine(x, "live(9999)", x.live(9999), 0);
        lived(x, 0, 0, 0, 0, 0, 0);
        Check.shelf(x, FIVE);
        CHECK.not(x, "another shelf has no days", x.live(0), 6);
        CHECK.fine(x, "what was lived is told on", x.lived(0), 0);
    }

    private static void steps() {
        TwinShelf x = with("put x at a 5;fall c;put x at b 6;fall b;fall d;strike x at a;add s at e 7;rise b;rise c;rise d;"
            + "hand;get x at e;night a c;wipe b;");
        CHECK.fine(x, "live(0)", x.live(0), 14);
        // the strike has a and e for b; the add has e, a for c and b is fallen for d
        lived(x, 0, 2, 2, 1, 3, 0);
        CHECK.fine(x, "all is as it is then", x.told(5), 31);
        CHECK.fine(x, "twins(0, 0)", x.twins(0, 0), 3);
        CHECK.fine(x, "twins(1, 0), wiped", x.twins(1, 0), 0);
        CHECK.fine(x, "twins(2, 0), by the night", x.twins(2, 0), 3);
        CHECK.fine(x, "partOf(2, 2, 4), handed on", x.partOf(2, 2, 4), 7);
        CHECK.not(x, "isDone() is of calls alone", x.isDone(), 6);
        CHECK.not(x, "got() is of calls alone", x.got(0), 6);
        x = with("part a e;put x at a 1;heal;part b;");
        CHECK.fine(x, "live(0)", x.live(0), 4);
        CHECK.fine(x, "told(6)", x.told(6), 2);
        CHECK.fine(x, "hints(4)", x.hints(4), 1);
        lived(x, 0, 0, 1, 0, 0, 0);
        CHECK.fine(x, "live(0) from what is now", x.live(0), 4);
        lived(x, 0, 0, 1, 0, 0, 0);
        CHECK.fine(x, "twins(0, 0)", x.twins(0, 0), 2);
    }

    private static void ticketNought() {
        TwinShelf x = with("put x at a 1;get x at a;put x at b 2;get s at a;put x at c 3;");
        CHECK.fine(x, "live(0)", x.live(0), 5);
        CHECK.fine(x, "told(7)", x.told(7), 1);
        CHECK.fine(x, "ticket(0, -1)", x.ticket(0, -1), 0);
        // 2 replaced 1 by the ticket; 3 used the same ticket, which had not seen 2
        CHECK.fine(x, "twins(0, 0)", x.twins(0, 0), 2);
        CHECK.fine(x, "twin(0, 0, 0, 0)", x.twin(0, 0, 0, 0), 2);
        CHECK.fine(x, "twin(0, 0, 1, 0)", x.twin(0, 0, 1, 0), 3);
        x = with("put x at a 1;get x at a;get y at a;put x at a 2;");
        CHECK.fine(x, "live(0)", x.live(0), 4);
        CHECK.fine(x, "a ticket of another key is none", x.twins(0, 0), 2);
        lived(x, 0, 2, 0, 2, 0, 0);
        x = with("put x at a 1;get x at a;strike x at b;");
        x.live(0);
        CHECK.fine(x, "a strike by the ticket", x.twin(2, 0, 0, 0), 1000);
        CHECK.fine(x, "and nothing else", x.twins(2, 0), 1);
    }

    private static void misses() {
        TwinShelf x = with("put x at d 1;strike x at e;add s at a 1;fall a;put x at a 1;get x at a;night a b;part b;night b c;"
            + "get x at c;rise a;fall c;night a d;hand;");
        CHECK.fine(x, "live(0)", x.live(0), 14);
        // put, strike, add at no places; put, get, night at one fallen; night across the part; get of c alone
        lived(x, 8, 0, 0, 0, 0, 0);
        CHECK.fine(x, "nothing was put", x.twins(0, 0), 0);
        x = Check.with("keeper a at 1;key x at 1;");
        Check.days(x, "loop 40;put x at a 1;end;");
        CHECK.fine(x, "live(0)", x.live(0), 41);
        lived(x, 10, 30, 0, 0, 0, 0);
    }

    /** night() refuses one and itself, so as a step it can't be, whether the one is UP or not. */
    private static void nightsOfOne() {
        TwinShelf x = with("night a a;night d d;fall b;night b b;part a;night a a;heal;night a c;");
        CHECK.fine(x, "live(0)", x.live(0), 8);
        lived(x, 4, 0, 0, 0, 0, 0);
        x = with("put x at a 1;loop 3;night a a;end;night b a;");
        CHECK.fine(x, "live(0)", x.live(0), 6);
        lived(x, 3, 1, 0, 0, 0, 0);
        CHECK.fine(x, "it changes nothing", x.twins(0, 0), 1);
        x = Check.with("keeper a at 1;key x at 1;");
        Check.days(x, "night a a;");
        CHECK.fine(x, "live(0) of the only keeper", x.live(0), 1);
        lived(x, 1, 0, 0, 0, 0, 0);
    }

    private static void loops() {
        TwinShelf x = with("loop 3;loop 2;add s at c 1;end;hand;end;add s at c 100;");
        // 1 and 3 times (1, 2, hand) and the last
        CHECK.fine(x, "live(0)", x.live(0), 1 + 3 * 4 + 1);
        CHECK.fine(x, "partOf(2, 2, 2)", x.partOf(2, 2, 2), 106);
        lived(x, 0, 7, 0, 0, 0, 0);
        x = with("loop 99;end;loop 99;loop 99;end;end;");
        CHECK.fine(x, "loops of nothing", x.live(0), 1 + 1 + 99);
        CHECK.fine(x, "lived(5)", x.lived(5), 0);
        x = with("loop 1;add s at c 1;end;");
        CHECK.fine(x, "once", x.live(0), 2);
    }

    /** How many steps are done: those ahead, the when itself, two more if it holds, and one behind it. */
    private static int whenSteps(String test, String ahead) {
        return with(ahead + "when " + test + ";heal;heal;end;hand;").live(0);
    }

    private static void whens() {
        CHECK.due("when alike x", whenSteps("alike x", ""), 4);
        CHECK.due("when alike x, not so", whenSteps("alike x", "part a;put x at a 1;"), 4);
        CHECK.due("when up a", whenSteps("up a", ""), 4);
        CHECK.due("when up a, not so", whenSteps("up a", "fall a;"), 3);
        CHECK.due("when twins = 0", whenSteps("twins x at a = 0", ""), 4);
        CHECK.due("when twins = 1, not so", whenSteps("twins x at a = 1", ""), 2);
        CHECK.due("when twins > 0, not so", whenSteps("twins x at a > 0", ""), 2);
        CHECK.due("when twins < 1", whenSteps("twins x at a < 1", ""), 4);
        CHECK.due("when twins < 0, not so", whenSteps("twins x at a < 0", ""), 2);
        String one = "put x at b 1;";
        CHECK.due("when twins = 1", whenSteps("twins x at a = 1", one), 5);
        CHECK.due("when twins > 0", whenSteps("twins x at a > 0", one), 5);
        CHECK.due("when twins > 1, not so", whenSteps("twins x at a > 1", one), 3);
        CHECK.due("when twins < 1, not so", whenSteps("twins x at a < 1", one), 3);
        CHECK.due("when twins of one that has none", whenSteps("twins x at d = 0", one), 5);
        CHECK.due("when twins of a sum", whenSteps("twins s at c = 0", "add s at c 1;"), 5);
        TwinShelf x = with("loop 4;when twins x at a < 2;put x at a 1;end;end;");
        CHECK.fine(x, "a when within a loop", x.live(0), 1 + 4 + 2);
        CHECK.fine(x, "twins(0, 0)", x.twins(0, 0), 2);
    }

    private static void stops() {
        TwinShelf x = with("loop 9;put x at a 1;when twins x at a = 3;stop;end;end;hand;");
        CHECK.fine(x, "live(0)", x.live(0), 1 + 3 * 2 + 1);
        CHECK.fine(x, "twins(0, 0)", x.twins(0, 0), 3);
        CHECK.fine(x, "lived(5)", x.lived(5), 0);
    }

    private static void threeHundred() {
        TwinShelf x = with("loop 99;heal;heal;heal;end;heal;heal;");
        CHECK.fine(x, "300 just so", x.live(0), 300);
        CHECK.fine(x, "lived(5)", x.lived(5), 0);
        x = with("loop 99;heal;heal;heal;end;heal;heal;heal;");
        CHECK.fine(x, "one is left", x.live(0), 300);
        CHECK.fine(x, "lived(5)", x.lived(5), 1);
        x = with("loop 99;loop 99;add s at c 1;end;end;");
        CHECK.fine(x, "many are left", x.live(0), 300);
        CHECK.fine(x, "lived(5)", x.lived(5), 1);
        CHECK.fine(x, "partOf(2, 2, 2)", x.partOf(2, 2, 2), 296);
        x = with("loop 99;heal;heal;heal;end;heal;loop 9;end;");
        CHECK.fine(x, "a loop of nothing is the last", x.live(0), 300);
        CHECK.fine(x, "lived(5)", x.lived(5), 0);
        x = with("loop 99;heal;heal;heal;end;heal;when up a;end;");
        CHECK.fine(x, "a when of nothing is the last", x.live(0), 300);
        CHECK.fine(x, "lived(5)", x.lived(5), 0);
        x = with("fall a;loop 99;heal;heal;heal;end;when up a;heal;end;");
        CHECK.fine(x, "what is skipped is not left", x.live(0), 300);
        CHECK.fine(x, "lived(5)", x.lived(5), 0);
        x = with("loop 99;heal;heal;heal;end;heal;when up a;heal;end;");
        CHECK.fine(x, "what is not skipped is", x.live(0), 300);
        CHECK.fine(x, "lived(5)", x.lived(5), 1);
        x = with("loop 99;heal;heal;heal;end;heal;heal;stop;");
        CHECK.fine(x, "a stop may be left", x.live(0), 300);
        CHECK.fine(x, "lived(5)", x.lived(5), 1);
        x = with("loop 99;put x at d 1;put x at d 1;put x at d 1;put x at d 1;end;");
        CHECK.fine(x, "misses count", x.live(0), 300);
        CHECK.fine(x, "lived(0)", x.lived(0), 299);
    }

    private static int drawnDown(int seed, int strength, int draws) {
        int s = seed;
        int up = 0;
        for (int i = 0; i < draws; i++) {
            s = (s * 2801 + 12413) % 65536;
            up = up << 1 | (s / 8 % 16 < strength ? 0 : 1);
        }
        return up;
    }

    private static void storms() {
        TwinShelf x = with("storm 16;");
        x.live(5);
        CHECK.fine(x, "storm 16: all fall", x.told(5), 0);
        x = with("fall a;fall c;storm 0;");
        x.live(5);
        CHECK.fine(x, "storm 0: all rise", x.told(5), 31);
        // seed 0: s is 12,413: 1,551 by 16 leaves 15; then 47,146: 5,893 by 16 leaves 5
        x = Check.with("keeper a at 1;keeper b at 2;");
        Check.days(x, "storm 6;");
        x.live(0);
        CHECK.fine(x, "storm 6 by seed 0", x.told(5), 1);
        Check.days(x, "storm 5;");
        x.live(0);
        CHECK.fine(x, "storm 5 by seed 0", x.told(5), 3);
        for (int seed = 0; seed < 10000; seed += 1111) {
            x = with("storm 7;storm 9;");
            x.live(seed);
            int drawn = drawnDown(seed, 9, 10);
            int due = 0;
            for (int i = 0; i < 5; i++) {
                due |= (drawn >> (4 - i) & 1) << i;
            }
            CHECK.fine(x, "two storms by seed " + seed, x.told(5), due);
        }
    }

    private static void agreed() {
        TwinShelf x = with("put x at a 1;");
        x.fall(4, true);
        x.live(0);
        CHECK.fine(x, "agreed(0, 20)", x.agreed(0, 20));
        CHECK.due("top()", x.top(), 1);
        CHECK.due("bottom()", x.bottom(), 1);
        CHECK.fine(x, "all stays as it is", x.twins(0, 0), 1);
        CHECK.fine(x, "lived, too", x.lived(1), 1);
        Check.days(x, "part a;put x at a 1;");
        CHECK.fine(x, "agreed(7, 13)", x.agreed(7, 13));
        CHECK.due("top()", x.top(), 0);
        CHECK.due("bottom()", x.bottom(), 1);
        CHECK.fine(x, "nothing is parted", x.told(6), 0);
        // b falls or not by the first two draws; then c has a hint, or all have it
        x = Check.with("places 2 reads 1 writes 1;keeper a at 1;keeper b at 2;keeper c at 3;key x at 1;");
        Check.days(x, "storm 8;rise a;put x at a 1;");
        for (int many = 1; many <= 20; many++) {
            int count = 0;
            for (int seed = 40; seed < 40 + many; seed++) {
                count += drawnDown(seed, 8, 2) & 1;
            }
            CHECK.fine(x, "agreed(40, " + many + ")", x.agreed(40, many));
            CHECK.due("the fraction", x.top() * many, x.bottom() * count);
            CHECK.due("its bottom divides", many % x.bottom(), 0);
            CHECK.due("no common divisor", gcd(x.top(), x.bottom()), 1);
        }
        CHECK.fine(x, "all are still up", x.told(5), 7);
        CHECK.fine(x, "nobody has given", x.put(0, 0, 1, -1), 2);
        CHECK.fine(x, "its count", x.twin(0, 0, 0, 2), 1);
        x = new TwinShelf();
        x.days(0);
        CHECK.fine(x, "agreed of no keys", x.agreed(0, 4));
        CHECK.due("top()", x.top(), 1);
        CHECK.due("bottom()", x.bottom(), 1);
    }

    private static long gcd(long a, long b) {
        return b == 0 ? a : gcd(b, a % b);
    }

    private static void marks() {
        TwinShelf x = Check.with(FIVE);
        CHECK.not(x, "back() of none", x.back(), 6);
        CHECK.fine(x, "mark()", x.mark(), 1);
        x.put(0, 0, 1, -1);
        CHECK.fine(x, "mark()", x.mark(), 2);
        x.put(0, 0, 2, -1);
        CHECK.fine(x, "mark()", x.mark(), 3);
        x.put(0, 0, 3, -1);
        CHECK.not(x, "a fourth mark()", x.mark(), 4);
        CHECK.fine(x, "twins(0, 0)", x.twins(0, 0), 3);
        CHECK.fine(x, "back()", x.back(), 2);
        CHECK.fine(x, "twins(0, 0)", x.twins(0, 0), 2);
        CHECK.fine(x, "back()", x.back(), 1);
        CHECK.fine(x, "twins(0, 0)", x.twins(0, 0), 1);
        x.put(0, 0, 9, -1);
        CHECK.fine(x, "the counts are taken back, too", x.twin(0, 0, 1, 2), 2);
        CHECK.fine(x, "the value is the new one", x.twin(0, 0, 1, 0), 9);
        CHECK.fine(x, "mark()", x.mark(), 2);
        CHECK.fine(x, "back()", x.back(), 1);
        CHECK.fine(x, "twins(0, 0)", x.twins(0, 0), 2);
        CHECK.fine(x, "back()", x.back(), 0);
        CHECK.fine(x, "twins(0, 0)", x.twins(0, 0), 0);
        CHECK.not(x, "back() once more", x.back(), 6);
    }

    private static void marksKeepAll() {
        TwinShelf x = with("put x at a 77;");
        x.put(0, 0, 1, -1);
        x.get(0, 0, 2);
        x.fall(2, true);
        x.put(0, 0, 2, -1);
        x.add(2, 3, 6);
        x.part(16);
        x.tray(0, 3, 2);
        x.mark();
        CHECK.fine(x, "another shelf", Check.shelf(x, "places 1 reads 1 writes 1;keeper q at 1;key r at 1;"), 1);
        x.put(0, 0, 500, -1);
        x.get(0, 0, 0);
        x.odds(0, 0, 500);
        x.write(0, 1, 5);
        Check.days(x, "fall q;");
        x.live(0);
        Check.feed(x, "hand;");
        CHECK.fine(x, "back()", x.back(), 0);
        int[] told = {3, 2, 3, 5, 3, 27, 16, 4};
        for (int what = 0; what < 8; what++) {
            CHECK.fine(x, "told(" + what + ")", x.told(what), told[what]);
        }
        CHECK.fine(x, "places(1)", x.places(1), 25);
        CHECK.fine(x, "row(1, 0)", x.row(1, 0), 3);
        CHECK.fine(x, "twin(0, 0, 0, 0)", x.twin(0, 0, 0, 0), 1);
        CHECK.fine(x, "twin(0, 0, 1, 0)", x.twin(0, 0, 1, 0), 2);
        CHECK.fine(x, "hints(3)", x.hints(3), 1);
        CHECK.fine(x, "hints(0)", x.hints(0), 1);
        CHECK.fine(x, "ticket(2, 0)", x.ticket(2, 0), 1);
        CHECK.fine(x, "partOf(4, 2, 3)", x.partOf(4, 2, 3), 6);
        x.mark();
        x.part(0);
        x.fall(2, false);
        CHECK.fine(x, "hand() of the hints kept", x.hand(), 2);
        CHECK.fine(x, "twins(2, 0)", x.twins(2, 0), 2);
        CHECK.fine(x, "partOf(2, 2, 3)", x.partOf(2, 2, 3), 6);
        CHECK.fine(x, "put with the ticket kept", x.put(0, 0, 3, 2), 3);
        CHECK.fine(x, "the first is gone", x.twin(0, 0, 0, 0), 2);
        x.back();
        // what a mark does not keep
        CHECK.fine(x, "got(0)", x.got(0), 500);
        CHECK.fine(x, "read(0, 1)", x.read(0, 1), 5);
        CHECK.due("top()", x.top(), 1);
        CHECK.fine(x, "lived(0)", x.lived(0), 0);
        CHECK.fine(x, "live(0): the old days", x.live(0), 1);
        CHECK.fine(x, "twin(0, 0, 2, 0)", x.twin(0, 0, 2, 0), 77);
        CHECK.fine(x, "the tape", x.days(5), 1);
        CHECK.fine(x, "names, too", Check.days(x, "put x at a 1;night d e;"), 2);
    }
}
