import java.util.ArrayList;
import java.util.List;

/** Edges of living DAYS and of MARKS: the rest of part 4 of the terms, promises 50 to 54. */
final class LifeEdges {
    private static final String ONE = "keeper a at 1;key x at 1;key s at 1 sum;";
    private static final int[] ODD_SEEDS = {-1, 10000, 10001, Integer.MIN_VALUE, Integer.MAX_VALUE};

    private LifeEdges() {
    }

    static void run(Edge e) {
        putsWithTicket(e);
        getsIntoTicket(e);
        leftOut(e);
        notDone(e);
        doneAsCalls(e);
        nightsMissed(e);
        storms(e);
        draws(e);
        twinsCompared(e);
        tests(e);
        loops(e);
        threeHundred(e);
        countsOfSteps(e);
        behindThreeHundred(e);
        fromWhatIsNow(e);
        seeds(e);
        live(e);
        livedTells(e);
        livedLatest(e);
        agreed(e);
        agreedStays(e);
        agreedRefusals(e);
        threeMarks(e);
        marksKeep(e);
        marksLeave(e);
        backRefusals(e);
    }

    private static TwinShelf with(String shelf, String days) {
        TwinShelf x = Check.with(shelf);
        if (Check.days(x, days) < 0) {
            System.out.println("a test's own days are refused: " + days);
            System.exit(1);
        }
        return x;
    }

    private static TwinShelf five(String days) {
        return with(Edge.FIVE, days);
    }

    /** MISSED, DONE, not DONE, GETS, HINTS, 1 if a STEP was left. */
    private static void lived(Edge e, TwinShelf x, int... due) {
        for (int what = 0; what < 6; what++) {
            e.fine(x, "lived(" + what + ")", x.lived(what), due[what]);
        }
    }

    private static void live(Edge e, String days, int steps, int... due) {
        TwinShelf x = five(days);
        e.fine(x, "live(0) of '" + days + "'", x.live(0), steps);
        lived(e, x, due);
    }

    private static void putsWithTicket(Edge e) {
        e.terms("put (0 to 999), strike, add (1 to 999), get by that KEEPER: put and strike with TICKET 0 if it is there for that"
            + " KEY");
        String[] last = {"put x at b 2;", "strike x at b;"};
        for (int i = 0; i < 2; i++) {
            int value = i == 0 ? 2 : 1000;
            TwinShelf x = five("put x at a 1;get x at a;" + last[i]);
            x.live(0);
            e.fine(x, "with TICKET 0", x.twins(0, 0), 1);
            e.twin(x, 0, 0, 0, value, 1, 1);
            x = five("put x at a 1;" + last[i]);
            x.live(0);
            e.fine(x, "it is not there", x.twins(0, 0), 2);
            e.twin(x, 0, 0, 1, value, 1, 1);
            x = five("put x at a 1;get x at a;get y at a;" + last[i]);
            x.live(0);
            e.fine(x, "it is there for another KEY", x.twins(0, 0), 2);
            lived(e, x, 0, 2, 0, 2, 0, 0);
            x = five(last[i]);
            x.put(0, 0, 1, -1);
            x.get(0, 0, 1);
            x.live(0);
            e.fine(x, "TICKET 1 is of no use", x.twins(0, 0), 2);
            x.get(0, 0, 0);
            x.live(0);
            e.fine(x, "TICKET 0 of a call is", x.twins(0, 0), 1);
            x.put(0, 2, 3, -1);
            x.live(0);
            e.fine(x, "what it has not SEEN stays", x.twins(0, 0), 3);
        }
        for (int value : new int[] {0, 1, 998, 999}) {
            TwinShelf x = five("put x at c " + value + ";");
            x.live(0);
            e.twin(x, 1, 0, 0, value, 2, 1);
        }
        for (int n : new int[] {1, 2, 998, 999}) {
            TwinShelf x = five("add s at e " + n + ";");
            x.live(0);
            e.fine(x, "its PART", x.partOf(2, 2, 4), n);
        }
    }

    private static void getsIntoTicket(Edge e) {
        e.terms("get into TICKET 0");
        TwinShelf x = five("put x at b 1;get x at d;");
        e.fine(x, "live(0)", x.live(0), 2);
        e.fine(x, "told(7)", x.told(7), 1);
        e.fine(x, "its KEY", x.ticket(0, -1), 0);
        e.fine(x, "SEEN of b", x.ticket(0, 1), 1);
        x = five("get s at d;");
        e.fine(x, "live(0)", x.live(0), 1);
        e.fine(x, "of a sum none is there", x.told(7), 0);
        x = five("put x at b 1;get x at d;add s at c 1;get s at d;");
        x.live(0);
        e.fine(x, "of a sum it stays", x.ticket(0, -1), 0);
        x = five("get x at a;");
        x.part(1);
        x.put(0, 1, 1, -1);
        x.part(0);
        x.live(0);
        e.fine(x, "those asked have it then", x.twins(0, 0), 1);
    }

    private static void leftOut(Edge e) {
        e.terms("what can't be is left out, and MISSED");
        live(e, "put x at d 1;", 1, 1, 0, 0, 0, 0, 0);
        live(e, "strike x at e;", 1, 1, 0, 0, 0, 0, 0);
        live(e, "add s at a 1;", 1, 1, 0, 0, 0, 0, 0);
        live(e, "fall a;put x at a 1;strike x at a;get x at a;", 4, 3, 0, 0, 0, 0, 0);
        live(e, "fall c;add s at c 1;", 2, 1, 0, 0, 0, 0, 0);
        live(e, "fall a;fall b;get x at c;", 3, 1, 0, 0, 0, 0, 0);
        live(e, "part d;get x at d;get s at d;", 3, 2, 0, 0, 0, 0, 0);
        live(e, "fall a;fall a;rise b;rise b;wipe a;wipe a;part a;part a;heal;heal;hand;hand;", 12, 0, 0, 0, 0, 0, 0);
        TwinShelf x = five("put x at d 1;strike x at e;add s at a 1;get x at d;fall a;put x at a 5;rise a;");
        e.fine(x, "live(0)", x.live(0), 7);
        lived(e, x, 4, 0, 0, 1, 0, 0);
        e.fine(x, "nothing was put", x.twins(0, 0) + x.twins(3, 0) + x.hints(3), 0);
        e.fine(x, "the first count is free", x.put(0, 0, 1, -1), 3);
        e.fine(x, "its count", x.twin(0, 0, 0, 2), 1);
        // 30 counts, and no 31st
        x = with(ONE, "loop 29;put x at a 1;end;strike x at a;");
        e.fine(x, "live(0)", x.live(0), 31);
        lived(e, x, 0, 30, 0, 0, 0, 0);
        x = with(ONE, "loop 30;put x at a 1;end;strike x at a;put x at a 1;");
        e.fine(x, "live(0)", x.live(0), 33);
        lived(e, x, 2, 30, 0, 0, 0, 0);
        e.fine(x, "twins(0, 0)", x.twins(0, 0), 30);
    }

    private static void notDone(Edge e) {
        e.terms("(put, add, strike that are not DONE are no MISSES).");
        live(e, "part a;put x at a 1;strike x at a;", 3, 0, 0, 2, 0, 0, 0);
        live(e, "part c;add s at c 1;", 2, 0, 0, 1, 0, 0, 0);
        live(e, "fall b;put x at a 1;strike x at c;", 3, 0, 2, 0, 0, 0, 0);
        live(e, "fall b;fall d;fall e;put x at a 1;", 4, 0, 0, 1, 0, 0, 0);
        live(e, "fall b;fall d;fall c;put x at a 1;", 4, 0, 0, 1, 0, 0, 0);
    }

    /** Each STEP does what the call of its name does. */
    private static void doneAsCalls(Edge e) {
        e.terms("put NAME at NAME NUMBER ; or strike NAME at NAME ; or add NAME at NAME NUMBER ; or get NAME at NAME ; or fall NAME ;"
            + " or rise NAME ; or wipe NAME ; or part NAME {NAME} ; or heal ; or hand ; or night NAME NAME ;");
        asCall(e, "put x at b 77;", x -> x.put(0, 1, 77, -1));
        asCall(e, "put y at d 77;", x -> x.put(1, 3, 77, 0));
        asCall(e, "strike x at b;", x -> x.strike(0, 1, -1));
        asCall(e, "strike y at d;", x -> x.strike(1, 3, 0));
        asCall(e, "add s at d 9;", x -> x.add(2, 3, 9));
        asCall(e, "get x at d;", x -> x.get(0, 3, 0));
        asCall(e, "get s at d;", x -> x.get(2, 3, 0));
        asCall(e, "hand;", TwinShelf::hand);
        asCall(e, "heal;", x -> x.part(0));
        asCall(e, "part e;", x -> x.part(16));
        asCall(e, "part e a;", x -> x.part(17));
        asCall(e, "part d c b;", x -> x.part(14));
        asCall(e, "night a b;", x -> x.night(0, 1));
        asCall(e, "night d a;", x -> x.night(3, 0));
        for (int i = 0; i < 5; i++) {
            int keeper = i;
            char name = (char) ('a' + i);
            asCall(e, "fall " + name + ";", x -> x.fall(keeper, true));
            asCall(e, "rise " + name + ";", x -> x.fall(keeper, false));
            asCall(e, "wipe " + name + ";", x -> x.wipe(keeper));
        }
    }

    private static void asCall(Edge e, String step, Edge.Call call) {
        TwinShelf x = Edge.rich();
        TwinShelf y = Edge.rich();
        for (int turn = 0; turn < 2; turn++) {
            Check.days(x, step);
            e.fine(x, "live(0) of '" + step + "'", x.live(0), 1);
            call.on(y);
            e.due("status() of the call behind '" + step + "'", y.status() == 0 || y.status() == 7, true);
            e.fine(x, "lived(0) of '" + step + "'", x.lived(0), y.status() == 0 ? 0 : 1);
            e.same("'" + step + "' as the call", Probe.kept(x), Probe.kept(y));
            // and with c risen, who has HINTS to come
            x.fall(2, false);
            y.fall(2, false);
            x.part(0);
            y.part(0);
        }
        Check.days(x, "");
        Check.days(y, "");
        x.live(0);
        y.live(0);
        e.same("what is done behind '" + step + "'", Probe.deep(x), Probe.deep(y));
    }

    private static void nightsMissed(Edge e) {
        e.terms("night of two that do not REACH one another: MISSED.");
        live(e, "night a b;", 1, 0, 0, 0, 0, 0, 0);
        live(e, "fall a;night a b;night b a;rise a;night a b;", 5, 2, 0, 0, 0, 0, 0);
        live(e, "part a;night a b;heal;night a b;", 4, 1, 0, 0, 0, 0, 0);
        live(e, "part a b;night a b;night a c;", 3, 1, 0, 0, 0, 0, 0);
        // night(a, a) can't be, so it is left out as a STEP, too
        live(e, "night a a;", 1, 1, 0, 0, 0, 0, 0);
        TwinShelf x = five("part b;night a b;heal;night b c;");
        x.part(1);
        x.put(0, 0, 1, -1);
        e.fine(x, "live(0)", x.live(0), 4);
        lived(e, x, 1, 0, 0, 0, 0, 0);
        e.fine(x, "what is MISSED is left out", x.twins(1, 0), 0);
    }

    /** The draws of a seed by the document's words, one a KEEPER and a storm. */
    private static int[] drawn(int seed, int many) {
        int[] draws = new int[many];
        long s = seed;
        for (int i = 0; i < many; i++) {
            s = (s * 2801 + 12413) % 65536;
            draws[i] = (int) (s / 8 % 16);
        }
        return draws;
    }

    private static void storms(Edge e) {
        e.terms("storm n (0 to 16): for each KEEPER a draw by 16: less than that: it FALLS, else it RISES.");
        for (int seed : new int[] {0, 1, 9998, 9999}) {
            int[] draws = drawn(seed, 5);
            for (int n = 0; n <= 16; n++) {
                int due = 0;
                for (int keeper = 0; keeper < 5; keeper++) {
                    due |= draws[keeper] < n ? 0 : 1 << keeper;
                }
                TwinShelf x = five("fall b;fall d;storm " + n + ";");
                e.fine(x, "live(" + seed + ")", x.live(seed), 3);
                e.fine(x, "who is UP behind storm " + n, x.told(5), due);
                lived(e, x, 0, 0, 0, 0, 0, 0);
            }
        }
        TwinShelf x = Check.with("");
        x.days(0);
        Check.days(x, "storm 8;");
        e.fine(x, "of no KEEPERS", x.live(0), 1);
        // what they have stays
        x = five("put x at a 1;storm 16;storm 0;");
        x.live(0);
        e.fine(x, "twins(0, 0)", x.twins(0, 0), 1);
        e.fine(x, "told(5)", x.told(5), 31);
    }

    private static void draws(Edge e) {
        e.terms("Draws: s, at first the seed, becomes what is left of s times 2,801 and 12,413 by 65,536; the draw is the rest of"
            + " s by 8, rounded down, by 16.");
        // by hand, seed 0: s is 12,413, by 8 1,551, the rest by 16 15; then 47,146, 5,893, 5
        int[] byHand = drawn(0, 2);
        e.due("the first draw of seed 0", byHand[0], 15);
        e.due("the second draw of seed 0", byHand[1], 5);
        TwinShelf x = with("keeper a at 1;keeper b at 2;", "storm 5;");
        x.live(0);
        e.fine(x, "5 is not less than 5", x.told(5), 3);
        x = with("keeper a at 1;keeper b at 2;", "storm 6;");
        x.live(0);
        e.fine(x, "5 is less than 6", x.told(5), 1);
        x = with("keeper a at 1;keeper b at 2;", "storm 15;");
        x.live(0);
        e.fine(x, "15 is not less than 15", x.told(5), 1);
        // one storm's draws go on from the one ahead; a new live() begins with its seed again
        for (int seed : new int[] {7, 4321, 9999}) {
            int[] draws = drawn(seed, 300);
            int due = 0;
            for (int keeper = 0; keeper < 5; keeper++) {
                due |= draws[295 + keeper] < 9 ? 0 : 1 << keeper;
            }
            x = five("loop 60;storm 9;end;");
            e.fine(x, "live", x.live(seed), 61);
            e.fine(x, "behind sixty storms", x.told(5), due);
            x.live(0);
            e.fine(x, "live again", x.live(seed), 61);
            e.fine(x, "behind sixty storms again", x.told(5), due);
        }
    }

    private static void twinsCompared(Edge e) {
        e.terms("when twins: how many TWINS that KEEPER has at the KEY (0 to 99).");
        String many = "places 4 reads 1 writes 1;keeper a at 0;keeper b at 1;keeper c at 2;keeper d at 3;key x at 0;key y at 0;";
        for (int has : new int[] {0, 1, 2, 98, 99, 100}) {
            for (int n : new int[] {0, 1, 2, 98, 99}) {
                for (char sign : new char[] {'<', '>', '='}) {
                    boolean due = sign == '<' ? has < n : sign == '>' ? has > n : has == n;
                    TwinShelf x = with(many, "when twins x at b " + sign + " " + n + ";heal;end;");
                    for (int i = 0; i < has; i++) {
                        x.put(0, i % 4, 1, -1);
                    }
                    e.fine(x, has + " " + sign + " " + n, x.live(0), due ? 2 : 1);
                }
            }
        }
        TwinShelf x = five("when twins x at d = 0;heal;end;when twins s at c = 0;heal;end;when twins y at a = 0;heal;end;");
        x.put(0, 0, 1, -1);
        x.add(2, 2, 1);
        e.fine(x, "a WATCHER, a sum and another KEY have none", x.live(0), 6);
    }

    private static void tests(Edge e) {
        e.terms("TEST: alike NAME, or up NAME, or twins NAME at NAME COMPARES NUMBER.");
        TwinShelf x = five("when alike x;heal;end;when alike y;heal;heal;end;when alike s;heal;end;hand;");
        e.fine(x, "all are ALIKE", x.live(0), 8);
        x.part(4);
        x.put(0, 2, 1, -1);
        x.part(4);
        Check.days(x, "when alike x;heal;end;when alike y;heal;heal;end;hand;");
        e.fine(x, "x is not", x.live(0), 5);
        x.wipe(2);
        e.fine(x, "x is again", x.live(0), 6);
        x = five("when up a;heal;end;when up b;heal;heal;end;");
        e.fine(x, "both are UP", x.live(0), 5);
        x.fall(0, true);
        e.fine(x, "a is not", x.live(0), 4);
        x.fall(1, true);
        e.fine(x, "neither is", x.live(0), 2);
        x = five("when up a;when up b;when up c;heal;end;end;end;hand;");
        e.fine(x, "within three, all hold", x.live(0), 5);
        x.fall(2, true);
        e.fine(x, "the third does not", x.live(0), 4);
        x.fall(1, true);
        e.fine(x, "the second does not", x.live(0), 3);
        x.fall(0, true);
        e.fine(x, "the first does not", x.live(0), 2);
    }

    private static void loops(Edge e) {
        e.terms("loop n (1 to 99): as often.");
        for (int n : new int[] {1, 2, 98, 99}) {
            TwinShelf x = with(ONE, "loop " + n + ";add s at a 1;end;");
            e.fine(x, "live(0)", x.live(0), n + 1);
            e.fine(x, "as often", x.partOf(0, 1, 0), n);
            x = with(ONE, "loop " + n + ";end;");
            e.fine(x, "of nothing", x.live(0), 1);
        }
        TwinShelf x = with(ONE, "loop 2;loop 3;loop 4;add s at a 1;end;end;add s at a 100;end;");
        e.fine(x, "within one another", x.live(0), 1 + 2 * (1 + 3 * (1 + 4) + 1));
        e.fine(x, "as often", x.partOf(0, 1, 0), 224);
        x = with(ONE, "loop 3;when twins x at a < 2;put x at a 1;end;end;");
        e.fine(x, "a when within", x.live(0), 1 + 3 + 2);
        x = with(ONE, "loop 3;loop 2;end;end;");
        e.fine(x, "a loop of nothing within", x.live(0), 4);
        x = with(ONE, "loop 5;add s at a 1;stop;end;add s at a 100;");
        e.fine(x, "stop within", x.live(0), 3);
        e.fine(x, "once", x.partOf(0, 1, 0), 1);
        lived(e, x, 0, 1, 0, 0, 0, 0);
        x = with(ONE, "stop;add s at a 1;");
        e.fine(x, "stop at first", x.live(0), 1);
        e.fine(x, "nothing is done behind it", x.partOf(0, 1, 0), 0);
    }

    private static void threeHundred(Edge e) {
        e.terms("At most 300 STEPS");
        // 1, 98 or 99 times three, and so many behind it
        int[] loops = {98, 99, 99, 99, 99, 99};
        int[] behind = {4, 1, 2, 3, 4, 5};
        int[] steps = {299, 299, 300, 300, 300, 300};
        int[] left = {0, 0, 0, 1, 1, 1};
        for (int i = 0; i < loops.length; i++) {
            TwinShelf x = with(ONE, "loop " + loops[i] + ";add s at a 1;add s at a 1;add s at a 1;end;"
                + "add s at a 1;".repeat(behind[i]));
            e.fine(x, "live(0)", x.live(0), steps[i]);
            e.fine(x, "lived(5)", x.lived(5), left[i]);
            e.fine(x, "so many adds", x.partOf(0, 1, 0), steps[i] - 1);
            e.fine(x, "lived(1)", x.lived(1), steps[i] - 1);
        }
    }

    private static void countsOfSteps(Edge e) {
        e.terms("(when, loop count as one each time they are come to from ahead; end does not).");
        live(e, "heal;", 1, 0, 0, 0, 0, 0, 0);
        live(e, "loop 9;end;", 1, 0, 0, 0, 0, 0, 0);
        live(e, "loop 9;heal;end;", 10, 0, 0, 0, 0, 0, 0);
        live(e, "when up a;end;", 1, 0, 0, 0, 0, 0, 0);
        live(e, "when up a;heal;end;", 2, 0, 0, 0, 0, 0, 0);
        live(e, "fall a;when up a;heal;heal;end;", 2, 0, 0, 0, 0, 0, 0);
        live(e, "loop 9;when up a;end;end;", 10, 0, 0, 0, 0, 0, 0);
        live(e, "loop 9;loop 1;end;end;", 10, 0, 0, 0, 0, 0, 0);
        live(e, "loop 9;loop 2;heal;end;end;", 1 + 9 * 3, 0, 0, 0, 0, 0, 0);
        live(e, "stop;", 1, 0, 0, 0, 0, 0, 0);
        live(e, "put x at d 1;", 1, 1, 0, 0, 0, 0, 0);
    }

    /** Behind 299 STEPS. */
    private static void last(Edge e, String days, int steps, int left) {
        TwinShelf x = with(ONE + "keeper b at 2;", "loop 99;heal;heal;heal;end;heal;" + days);
        e.fine(x, "live(0) of 299 STEPS and '" + days + "'", x.live(0), steps);
        e.fine(x, "lived(5)", x.lived(5), left);
    }

    private static void behindThreeHundred(Edge e) {
        e.says(51, "5: 1 if a STEP was left to be done, else 0");
        last(e, "", 299, 0);
        last(e, "heal;", 300, 0);
        last(e, "heal;heal;", 300, 1);
        last(e, "stop;", 300, 0);
        last(e, "stop;heal;", 300, 0);
        last(e, "heal;stop;", 300, 1);
        last(e, "loop 99;end;", 300, 0);
        last(e, "heal;loop 99;end;", 300, 1);
        last(e, "loop 1;heal;end;", 300, 1);
        last(e, "loop 2;end;", 300, 0);
        last(e, "when up a;end;", 300, 0);
        last(e, "when up a;heal;end;", 300, 1);
        last(e, "when alike x;heal;end;", 300, 1);
        last(e, "when twins x at a > 0;heal;end;", 300, 0);
        last(e, "when twins x at a > 0;heal;end;heal;", 300, 1);
        last(e, "put x at b 1;", 300, 0);
        // the 300th is the last of the last turn, or of one ahead of it
        live(e, "loop 99;heal;heal;heal;end;loop 1;heal;end;", 300, 0, 0, 0, 0, 0, 0);
        live(e, "loop 99;heal;heal;heal;end;loop 2;heal;end;", 300, 0, 0, 0, 0, 0, 1);
        live(e, "loop 99;loop 2;heal;end;end;loop 2;end;", 299, 0, 0, 0, 0, 0, 0);
        live(e, "loop 60;heal;heal;heal;heal;end;loop 59;heal;end;", 300, 0, 0, 0, 0, 0, 1);
    }

    private static void fromWhatIsNow(Edge e) {
        e.terms("LIVED by a seed (0 to 9,999): from what is now; all is as it is then.");
        TwinShelf x = five("fall c;put x at a 8;part a b;get x at b;add s at d 2;");
        x.put(0, 1, 7, -1);
        x.add(2, 4, 9);
        x.get(0, 0, 2);
        e.fine(x, "live(0)", x.live(0), 5);
        e.fine(x, "who is UP", x.told(5), 27);
        e.fine(x, "who is PARTED", x.told(6), 3);
        e.fine(x, "which TICKETS are there", x.told(7), 5);
        e.fine(x, "TWINS", x.twins(0, 0), 2);
        e.fine(x, "the HINT of d for c at x", x.hints(3), 1);
        e.fine(x, "the sum", x.partOf(3, 2, 4) + x.partOf(4, 2, 3), 11);
        // d is on the side of e and c, and c is not UP: a and b are there, and PARTED
        lived(e, x, 0, 1, 1, 1, 0, 0);
        // once more, from there
        e.fine(x, "live(0) again", x.live(0), 5);
        e.fine(x, "TWINS", x.twins(0, 0), 1);
        e.fine(x, "its count", x.twin(0, 0, 0, 2), 2);
    }

    private static void seeds(Edge e) {
        e.terms("LIVED by a seed (0 to 9,999)");
        for (int seed : new int[] {0, 1, 9998, 9999}) {
            TwinShelf x = five("storm 8;");
            e.fine(x, "live(" + seed + ")", x.live(seed), 1);
        }
        for (int odd : ODD_SEEDS) {
            e.not(Edge::rich, "live(" + odd + ")", x -> x.live(odd), 1);
            e.not(TwinShelf::new, "1 ahead of 6, live(" + odd + ")", x -> x.live(odd), 1);
        }
    }

    private static void live(Edge e) {
        e.says(50, "LIVED: how many STEPS were done (1; 6: no DAYS).");
        e.not(TwinShelf::new, "at first", x -> x.live(0), 6);
        e.not(() -> Check.with(Edge.FIVE), "behind shelf()", x -> x.live(0), 6);
        Edge.Made another = () -> {
            TwinShelf x = Edge.rich();
            Check.shelf(x, Edge.FIVE);
            return x;
        };
        e.not(another, "behind another SHELF", x -> x.live(0), 6);
        e.not(() -> {
            TwinShelf x = Check.with(Edge.FIVE);
            Check.days(x, "heal");
            return x;
        }, "behind DAYS with a FAULT", x -> x.live(0), 6);
        TwinShelf x = five("");
        e.fine(x, "DAYS of no STEPS", x.live(0), 0);
        lived(e, x, 0, 0, 0, 0, 0, 0);
        x = five("heal;");
        e.fine(x, "one STEP", x.live(0), 1);
        x = five("heal;".repeat(30));
        e.fine(x, "thirty STEPS", x.live(0), 30);
    }

    private static void livedTells(Edge e) {
        e.says(51, "Of live() latest with STATUS 0, what 0: how many were MISSED, 1: puts, strikes, adds that were DONE, 2: that"
            + " were not, 3: GETS told, 4: HINTS given, 5: 1 if a STEP was left to be done, else 0 (1; 6: there was none).");
        for (int what = 0; what < 6; what++) {
            int asked = what;
            e.not(TwinShelf::new, "ahead of any, lived(" + what + ")", x -> x.lived(asked), 6);
            e.not(() -> five("heal;"), "ahead of any, with DAYS, lived(" + what + ")", x -> x.lived(asked), 6);
        }
        for (int odd : new int[] {-1, 6, 7, Integer.MIN_VALUE, Integer.MAX_VALUE}) {
            e.not(Edge::rich, "lived(" + odd + ")", x -> x.lived(odd), 1);
            e.not(TwinShelf::new, "1 ahead of 6, lived(" + odd + ")", x -> x.lived(odd), 1);
        }
        live(e, "put x at a 1;", 1, 0, 1, 0, 0, 0, 0);
        live(e, "strike x at a;", 1, 0, 1, 0, 0, 0, 0);
        live(e, "add s at c 1;", 1, 0, 1, 0, 0, 0, 0);
        live(e, "get x at a;get s at a;", 2, 0, 0, 0, 2, 0, 0);
        // HINTS of d for b and of e for c; both are handed on by one hand, c's again behind it
        live(e, "fall b;fall c;put x at a 1;rise b;rise c;hand;fall c;put x at a 2;rise c;hand;hand;", 11, 0, 2, 0, 0, 3, 0);
        live(e, "loop 40;put x at d 1;end;", 41, 40, 0, 0, 0, 0, 0);
    }

    private static void livedLatest(Edge e) {
        e.says(51, "Of live() latest with STATUS 0");
        TwinShelf x = five("get x at a;put x at d 1;");
        x.live(0);
        x.live(-1);
        x.live(10000);
        lived(e, x, 1, 0, 0, 1, 0, 0);
        x.get(0, 0, -1);
        x.put(0, 0, 1, -1);
        x.put(0, 4, 1, -1);
        x.hand();
        lived(e, x, 1, 0, 0, 1, 0, 0);
        e.fine(x, "agreed()", x.agreed(0, 20));
        lived(e, x, 1, 0, 0, 1, 0, 0);
        Check.days(x, "get x at a;");
        lived(e, x, 1, 0, 0, 1, 0, 0);
        x.mark();
        x.live(0);
        lived(e, x, 0, 0, 0, 1, 0, 0);
        x.back();
        lived(e, x, 0, 0, 0, 1, 0, 0);
        Check.shelf(x, "");
        x.live(0);
        lived(e, x, 0, 0, 0, 1, 0, 0);
    }

    private static void fraction(Edge e, TwinShelf x, int seed, int many, int count) {
        String call = "agreed(" + seed + ", " + many + ")";
        e.fine(x, call, x.agreed(seed, many));
        int divisor = many;
        while (count % divisor != 0 || many % divisor != 0) {
            divisor--;
        }
        e.due("top() of " + call, x.top(), count / divisor);
        e.due("bottom() of " + call, x.bottom(), many / divisor);
    }

    private static void agreed(Edge e) {
        e.says(52, "The FRACTION is behind how many of so many seeds (1 to 20) from one on all KEYS are ALIKE");
        // a puts where b may have fallen: then c takes a HINT, and the two PLACES are not LIKE
        TwinShelf x = with("places 2 reads 1 writes 1;keeper a at 1;keeper b at 2;keeper c at 3;key y at 3;key x at 1;",
            "storm 8;rise a;put x at a 1;");
        for (int seed : new int[] {0, 1, 40, 9980}) {
            int count = 0;
            for (int many = 1; many <= 20; many++) {
                count += drawn(seed + many - 1, 2)[1] < 8 ? 0 : 1;
                fraction(e, x, seed, many, count);
            }
        }
        fraction(e, x, 9999, 1, drawn(9999, 2)[1] < 8 ? 0 : 1);
        x = five("heal;");
        fraction(e, x, 0, 20, 20);
        x = five("part a;put x at a 1;");
        fraction(e, x, 0, 20, 0);
        // all KEYS, not the first or the last alone
        for (String put : new String[] {"part a;put x at a 1;", "part a;put y at a 1;", "part c;add s at c 1;"}) {
            fraction(e, five(put), 5, 3, 0);
        }
        x = five("heal;");
        x.part(1);
        x.put(0, 0, 1, -1);
        fraction(e, x, 0, 4, 0);
        x = with("", "heal;");
        fraction(e, x, 0, 4, 4);
        String six = "places 2 reads 1 writes 1;keeper a at 0;keeper b at 1;keeper c at 2;keeper d at 3;keeper e at 4;"
            + "keeper f at 5;key u at 0;key v at 1;key w at 2;key x at 3;key y at 4;key z at 5;";
        fraction(e, with(six, "put z at f 1;"), 0, 7, 7);
        fraction(e, with(six, "part f;put z at f 1;"), 0, 7, 0);
        // TICKET 0, and its KEY, are there for each seed as they are now
        x = with("keeper a at 0;keeper b at 1;key x at 0;key y at 0;",
            "put x at a 1;when twins x at a > 1;part a;put x at a 2;end;get y at a;");
        x.put(0, 0, 5, -1);
        x.get(0, 0, 0);
        fraction(e, x, 0, 20, 20);
        x.get(1, 0, 0);
        fraction(e, x, 0, 20, 0);
        // each seed begins with what is now
        x = with(ONE, "loop 20;put x at a 1;end;when twins x at a > 20;wipe a;end;");
        fraction(e, x, 0, 20, 20);
        x = with("places 2 reads 1 writes 1;keeper a at 1;keeper b at 2;key x at 1;",
            "when twins x at a > 0;part a;put x at a 1;end;put x at a 1;");
        fraction(e, x, 0, 20, 20);
    }

    private static void agreedStays(Edge e) {
        e.says(52, "(all stays as it is)");
        TwinShelf x = Edge.rich();
        e.fine(x, "agreed(3, 20)", x.agreed(3, 20));
        e.same("agreed() changes the FRACTION alone", withoutFraction(Probe.quiet(x)), withoutFraction(Probe.quiet(Edge.rich())));
        x = Edge.rich();
        x.agreed(3, 20);
        e.same("agreed() changes nothing that is done", Probe.deep(x), Probe.deep(Edge.rich()));
    }

    private static List<String> withoutFraction(List<String> lines) {
        List<String> left = new ArrayList<>(lines);
        left.removeIf(line -> line.startsWith("top") || line.startsWith("bottom"));
        return left;
    }

    private static void agreedRefusals(Edge e) {
        e.says(52, "(1: the last above 9,999, too; 6: no DAYS).");
        for (int odd : ODD_SEEDS) {
            e.not(Edge::rich, "agreed(" + odd + ", 1)", x -> x.agreed(odd, 1), 1);
            e.not(Edge::rich, "agreed(" + odd + ", 20)", x -> x.agreed(odd, 20), 1);
        }
        for (int odd : new int[] {-1, 0, 21, 22, Integer.MIN_VALUE, Integer.MAX_VALUE}) {
            e.not(Edge::rich, "agreed(0, " + odd + ")", x -> x.agreed(0, odd), 1);
            e.not(TwinShelf::new, "1 ahead of 6, agreed(0, " + odd + ")", x -> x.agreed(0, odd), 1);
        }
        for (int many = 1; many <= 20; many++) {
            int asked = many;
            TwinShelf x = Edge.rich();
            e.fine(x, "the last is 9,999, of " + many, x.agreed(10000 - many, many));
            e.not(Edge::rich, "the last is 10,000, of " + many, y -> y.agreed(10001 - asked, asked), 1);
        }
        e.not(TwinShelf::new, "no DAYS at first", x -> x.agreed(0, 1), 6);
        e.not(() -> Check.with(Edge.FIVE), "no DAYS", x -> x.agreed(9980, 20), 6);
    }

    private static TwinShelf marked(int many) {
        TwinShelf x = Check.with(Edge.FIVE);
        for (int i = 0; i < many; i++) {
            x.mark();
            x.put(0, 0, i, -1);
        }
        return x;
    }

    private static void threeMarks(Edge e) {
        e.terms("MARKS, at most 3");
        e.says(53, "A MARK more: how many there are (4).");
        TwinShelf x = Check.with(Edge.FIVE);
        for (int many = 1; many <= 3; many++) {
            e.fine(x, "mark()", x.mark(), many);
        }
        e.not(() -> marked(3), "a fourth", TwinShelf::mark, 4);
        e.fine(x, "back()", x.back(), 2);
        e.fine(x, "mark() again", x.mark(), 3);
        e.not(() -> {
            TwinShelf y = marked(3);
            y.back();
            y.mark();
            return y;
        }, "a fourth again", TwinShelf::mark, 4);
        x = new TwinShelf();
        e.fine(x, "of nothing", x.mark(), 1);
        Check.shelf(x, Edge.FIVE);
        e.fine(x, "another SHELF leaves it there", x.back(), 0);
        e.fine(x, "told(3)", x.told(3), 0);
    }

    private static void marksKeep(Edge e) {
        e.terms("the SHELF, what all have, HINTS, who is UP, what is PARTED, TICKETS, the DAYS are kept as they are; all is taken"
            + " back to the latest MARK, which is gone then.");
        e.says(54, "All is taken back to the latest MARK: how many there are left (6).");
        List<String> due = Probe.kept(Edge.rich());
        List<String> dueThen = Probe.deep(Edge.rich());
        TwinShelf x = richMarked();
        change(x);
        e.fine(x, "back()", x.back(), 2);
        e.same("all that a MARK keeps", Probe.kept(x), due);
        e.same("what is done from there", Probe.deep(x), dueThen);
        x = richMarked();
        Check.shelf(x, "places 1 reads 1 writes 1;keeper q at 1;key r at 1;");
        Check.days(x, "wipe q;");
        x.put(0, 0, 1, -1);
        e.fine(x, "back() behind another SHELF", x.back(), 2);
        e.same("all that a MARK keeps", Probe.kept(x), due);
        e.same("what is done from there", Probe.deep(x), dueThen);
        // of a TICKET its KEY, too
        x = Check.with(Edge.FIVE);
        x.get(0, 0, 2);
        x.mark();
        x.get(1, 0, 2);
        e.fine(x, "its KEY behind the MARK", x.ticket(2, -1), 1);
        x.back();
        e.fine(x, "its KEY", x.ticket(2, -1), 0);
        // the latest, and then the one ahead of it
        x = marked(3);
        for (int left = 2; left >= 0; left--) {
            e.fine(x, "twins(1, 0)", x.twins(1, 0), left + 1);
            e.fine(x, "back()", x.back(), left);
            e.fine(x, "twins(1, 0)", x.twins(1, 0), left);
        }
        // one more than ever it gave there, of what is taken back
        x = marked(1);
        x.back();
        x.put(0, 0, 500, -1);
        e.twin(x, 0, 0, 0, 500, 0, 1);
    }

    /** What a MARK keeps, changed by each call that can change it. */
    private static void change(TwinShelf x) {
        x.fall(2, false);
        x.part(0);
        x.hand();
        x.put(0, 0, 900, -1);
        x.strike(1, 3, 2);
        x.add(2, 3, 7);
        x.get(1, 0, 0);
        x.get(0, 0, 3);
        x.night(2, 4);
        x.bury(1);
        x.wipe(1);
        Check.days(x, "wipe a;storm 16;");
        x.live(4);
        x.part(6);
    }

    /** rich() has two MARKS already: this is the third. */
    private static TwinShelf richMarked() {
        TwinShelf x = Edge.rich();
        x.mark();
        return x;
    }

    private static void marksLeave(Edge e) {
        e.terms("the SHELF, what all have, HINTS, who is UP, what is PARTED, TICKETS, the DAYS are kept as they are");
        TwinShelf x = five("get x at a;");
        x.tray(0, 0, 1);
        x.mark();
        x.write(0, 0, 5);
        x.tray(1, 0, 1);
        x.put(0, 0, 7, -1);
        x.get(0, 0, -1);
        x.odds(0, 0, 7);
        x.live(0);
        Check.shelf(x, "!");
        Check.feed(x, "heal;");
        e.fine(x, "back()", x.back(), 0);
        e.fine(x, "TRAYS stay", x.read(0, 0), 5);
        e.fine(x, "a new TRAY stays", x.read(1, 0), 0);
        e.fine(x, "got() stays", x.got(0), 7);
        e.fine(x, "isDone() stays", x.isDone(), 1);
        e.due("top() stays", x.top(), 1);
        e.fine(x, "lived() stays", x.lived(3), 1);
        e.due("fault(0) stays", x.fault(0), 1);
        e.fine(x, "the tape stays", x.days(5), 1);
    }

    private static void backRefusals(Edge e) {
        e.says(54, "how many there are left (6).");
        e.not(TwinShelf::new, "of none", TwinShelf::back, 6);
        e.not(() -> {
            TwinShelf x = marked(1);
            x.back();
            x.put(0, 0, 5, -1);
            return x;
        }, "of none any more", TwinShelf::back, 6);
        TwinShelf x = marked(3);
        for (int left = 2; left >= 0; left--) {
            e.fine(x, "back()", x.back(), left);
        }
        e.due("a fourth", x.back(), -1);
        e.due("status()", x.status(), 6);
    }
}
