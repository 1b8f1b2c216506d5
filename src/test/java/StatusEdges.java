import java.util.ArrayList;
import java.util.List;

/** Edges of STATUS, call by call: part 5 of the terms. Which of two STATUS is told first stands with each promise. */
final class StatusEdges {
    /** A call, the STATUS with which it is refused, and one of the same name that is answered. */
    private record Pair(String name, int status, Edge.Call refused, Edge.Call answered) {
    }

    private StatusEdges() {
    }

    static void run(Edge e) {
        constants(e);
        eachCall(e);
        noStatus(e);
        answersThatAreMinusOne(e);
        kinds(e);
        firstOfThese(e);
        setsWithOthers(e);
        tapeAndFault(e);
    }

    private static void constants(Edge e) {
        e.terms("The constants: `NONE = -1`: None.");
        e.due("NONE", TwinShelf.NONE, -1);
    }

    private static List<Pair> texts() {
        List<Pair> calls = new ArrayList<>();
        calls.add(new Pair("tray", 1, x -> x.tray(0, 0, 61), x -> x.tray(0, 0, 60)));
        calls.add(new Pair("write", 3, x -> x.write(0, 3, 1), x -> x.write(0, 1, 1)));
        calls.add(new Pair("read", 2, x -> x.read(3, 0), x -> x.read(0, 0)));
        calls.add(new Pair("pour", 8, x -> x.pour(0, 0, 1, 0, 0) || x.pour(0, 0, 2, 0, 0), x -> x.pour(0, 0, 0, 1, 1)));
        calls.add(new Pair("shelf", 1, x -> x.shelf(1), x -> x.shelf(0)));
        calls.add(new Pair("days", 1, x -> x.days(301), x -> x.days(0)));
        calls.add(new Pair("told", 1, x -> x.told(8), x -> x.told(7)));
        calls.add(new Pair("row", 6, x -> x.row(0, 5), x -> x.row(0, 4)));
        calls.add(new Pair("places", 1, x -> x.places(3), x -> x.places(2)));
        calls.add(new Pair("reach", 1, x -> x.reach(0, 5), x -> x.reach(0, 4)));
        return calls;
    }

    private static List<Pair> done() {
        List<Pair> calls = new ArrayList<>();
        calls.add(new Pair("put", 7, x -> x.put(0, 2, 1, -1), x -> x.put(0, 0, 1, -1)));
        calls.add(new Pair("strike", 6, x -> x.strike(0, 0, 3), x -> x.strike(0, 0, 1)));
        calls.add(new Pair("add", 7, x -> x.add(0, 0, 1), x -> x.add(2, 3, 1)));
        calls.add(new Pair("get", 7, x -> x.get(0, 2, -1), x -> x.get(0, 0, -1)));
        calls.add(new Pair("got", 6, x -> x.got(99), x -> x.got(0)));
        calls.add(new Pair("fall", 1, x -> x.fall(5, true), x -> x.fall(4, true)));
        calls.add(new Pair("wipe", 1, x -> x.wipe(5), x -> x.wipe(4)));
        calls.add(new Pair("part", 1, x -> x.part(32), x -> x.part(31)));
        calls.add(new Pair("night", 1, x -> x.night(0, 0), x -> x.night(0, 1)));
        calls.add(new Pair("bury", 7, x -> x.bury(2), StatusEdges::buries));
        return calls;
    }

    private static Object buries(TwinShelf x) {
        for (int keeper = 0; keeper < 5; keeper++) {
            x.fall(keeper, false);
            x.wipe(keeper);
        }
        return x.bury(0);
    }

    private static List<Pair> had() {
        List<Pair> calls = new ArrayList<>();
        calls.add(new Pair("twins", 1, x -> x.twins(5, 0), x -> x.twins(4, 0)));
        calls.add(new Pair("twin", 6, x -> x.twin(0, 0, 99, 0), x -> x.twin(0, 0, 0, 0)));
        calls.add(new Pair("seen", 1, x -> x.seen(0, 0, 5), x -> x.seen(0, 0, 4)));
        calls.add(new Pair("partOf", 7, x -> x.partOf(0, 0, 0), x -> x.partOf(0, 2, 0)));
        calls.add(new Pair("hints", 1, x -> x.hints(5), x -> x.hints(4)));
        calls.add(new Pair("ticket", 6, x -> x.ticket(3, 0), x -> x.ticket(2, 0)));
        calls.add(new Pair("like", 1, x -> x.like(0, 5, 0), x -> x.like(0, 4, 0)));
        calls.add(new Pair("differ", 1, x -> x.differ(0, 5), x -> x.differ(0, 4)));
        calls.add(new Pair("root", 1, x -> x.root(5), x -> x.root(4)));
        calls.add(new Pair("fresh", 1, x -> x.fresh(3), x -> x.fresh(2)));
        calls.add(new Pair("late", 1, x -> x.late(5, 0), x -> x.late(4, 0)));
        calls.add(new Pair("load", 1, x -> x.load(5), x -> x.load(4)));
        calls.add(new Pair("moved", 7, x -> x.moved(0), x -> x.moved(1)));
        calls.add(new Pair("nights", 6, x -> x.nights(0), StatusEdges::nightsOfLike));
        calls.add(new Pair("safe", 7, x -> x.safe(2, 1), x -> x.safe(0, 1000)));
        return calls;
    }

    private static Object nightsOfLike(TwinShelf x) {
        for (int keeper = 0; keeper < 5; keeper++) {
            x.wipe(keeper);
        }
        return x.nights(0);
    }

    private static List<Pair> mayBe() {
        List<Pair> calls = new ArrayList<>();
        calls.add(new Pair("holders", 7, x -> x.holders(2, 1), x -> x.holders(0, 1)));
        calls.add(new Pair("lost", 1, x -> x.lost(32), x -> x.lost(31)));
        calls.add(new Pair("answers", 7, x -> x.answers(0, 2), x -> x.answers(0, 0)));
        calls.add(new Pair("odds", 7, x -> x.odds(0, 2, 1), x -> x.odds(0, 0, 1)));
        calls.add(new Pair("fewestFalls", 7, x -> x.fewestFalls(0, 2), x -> x.fewestFalls(0, 0)));
        calls.add(new Pair("live", 1, x -> x.live(10000), x -> x.live(9999)));
        calls.add(new Pair("lived", 1, x -> x.lived(6), x -> x.lived(5)));
        calls.add(new Pair("agreed", 1, x -> x.agreed(9999, 2), x -> x.agreed(9999, 1)));
        return calls;
    }

    private static boolean isNone(Object answer) {
        return answer instanceof Boolean is ? !is : ((Number) answer).longValue() == -1;
    }

    private static void eachCall(Edge e) {
        e.terms("With another STATUS than 0 a call gives NONE, or false");
        List<Pair> calls = new ArrayList<>(texts());
        calls.addAll(done());
        calls.addAll(had());
        calls.addAll(mayBe());
        for (Pair call : calls) {
            e.not(Edge::rich, call.name + "()", call.refused, call.status);
            TwinShelf x = Edge.rich();
            Object refused = call.refused.on(x);
            e.due(call.name + "() is refused", isNone(refused) ? x.status() : -1, call.status);
            Object answer = call.answered.on(x);
            e.due("STATUS 0 behind another one, " + call.name + "()", x.status(), 0);
            e.due(call.name + "() is answered", isNone(answer), false);
        }
        TwinShelf x = Edge.rich();
        x.mark();
        e.due("a fourth mark()", x.mark(), -1);
        e.due("status()", x.status(), 4);
        e.fine(x, "back()", x.back(), 2);
        x.told(8);
        e.fine(x, "mark()", x.mark(), 3);
        x.told(8);
        e.fine(x, "hand()", x.hand(), 0);
        x.told(8);
        e.due("alike()", x.alike() >= 0 && x.status() == 0, true);
        x.told(8);
        e.due("isDone()", x.isDone() >= 0 && x.status() == 0, true);
    }

    private static void noStatus(Edge e) {
        e.terms("status(), top(), bottom(), feed(), fault() have none.");
        TwinShelf x = Edge.rich();
        x.read(3, 0);
        for (int i = 0; i < 46; i++) {
            x.feed(i, i, i, i, i);
            x.fault(i - 1);
            x.top();
            x.bottom();
            e.due("status()", x.status(), 2);
        }
    }

    private static void answersThatAreMinusOne(Edge e) {
        e.terms("0 else.");
        for (int sort = 0; sort < 4; sort++) {
            TwinShelf x = new TwinShelf();
            x.tray(0, sort, 1);
            x.write(0, 0, -1);
            e.fine(x, "read() of a -1, sort " + sort, x.read(0, 0), -1);
        }
    }

    private static void kinds(Edge e) {
        e.terms("1 a number that can't be; no such TRAY, KEEPER, KEY, TICKET; a set with others. 2 the TRAY is MISSING. 3 a place that"
            + " the TRAY has not, or too few numbers. 4 one too many. 5 a number in a TRAY that can't be. 6 there is none such."
            + " 7 it can't be. 8 TRAYS are of unlike sorts. 9 a FAULT.");
        e.not(Edge::rich, "a number that can't be", x -> x.put(0, 0, 1000, -1), 1);
        e.not(Edge::rich, "no such TRAY", x -> x.read(4, 0), 1);
        e.not(Edge::rich, "no such KEEPER", x -> x.wipe(5), 1);
        e.not(Edge::rich, "no such KEY", x -> x.bury(3), 1);
        e.not(Edge::rich, "no such TICKET", x -> x.put(0, 0, 1, 4), 1);
        e.not(Edge::rich, "a set with others", x -> x.part(32), 1);
        e.not(Edge::rich, "the TRAY is MISSING", x -> x.read(3, 0), 2);
        e.not(Edge::rich, "a place that the TRAY has not", x -> x.read(0, 3), 3);
        e.not(Edge::rich, "too few numbers", x -> x.pour(0, 0, 0, 1, 3), 3);
        e.not(() -> {
            TwinShelf x = Edge.rich();
            x.mark();
            return x;
        }, "one too many", TwinShelf::mark, 4);
        e.not(Edge::rich, "there is none such", x -> x.ticket(3, 0), 6);
        e.not(Edge::rich, "it can't be", x -> x.put(0, 2, 1, -1), 7);
        e.not(Edge::rich, "TRAYS are of unlike sorts", x -> x.pour(0, 0, 2, 0, 0), 8);
        e.faulty(Edge::rich, "a FAULT", x -> Check.shelf(x, "!"), 1, 0);
    }

    private static void firstOfThese(Edge e) {
        e.terms("STATUS of a call is the first of these that holds: 1 a number that can't be");
        e.not(Edge::rich, "1 ahead of 2 and 3", x -> x.read(4, 99), 1);
        e.not(Edge::rich, "2 ahead of 3", x -> x.write(3, 99, 1), 2);
        e.not(Edge::rich, "2 ahead of 3, below", x -> x.write(3, -1, 1), 2);
        e.not(Edge::rich, "1 ahead of 6 and 7", x -> x.put(0, 3, -1, 3), 1);
        e.not(Edge::rich, "6 ahead of 7", x -> x.put(0, 3, 1, 3), 6);
        e.not(Edge::rich, "1 ahead of 7", x -> x.night(2, 2), 1);
        e.not(() -> Check.with("keeper a at 0;keeper b at 1;keeper c at 2;keeper d at 3;keeper e at 4;keeper f at 5;key x at 0;"),
            "4 ahead of 7", x -> x.moved(5), 4);
        e.not(() -> Check.with("keeper a at 0;keeper b at 1;keeper c at 2;keeper d at 3;keeper e at 4;keeper f at 5;key x at 0;"),
            "1 ahead of 4", x -> x.moved(1000), 1);
        e.not(() -> Check.with(Edge.FIVE), "1 ahead of 6", x -> x.agreed(9999, 2), 1);
        e.not(Edge::richFed, "1 ahead of 9", x -> x.shelf(41), 1);
        e.not(() -> {
            TwinShelf x = Edge.rich();
            Check.feed(x, "!".repeat(320));
            return x;
        }, "1 ahead of 9 of days()", x -> x.days(301), 1);
    }

    private static void setsWithOthers(Edge e) {
        e.terms("a set with others.");
        String[] names = {"a", "b", "c", "d", "e", "f"};
        StringBuilder text = new StringBuilder();
        for (int many = 0; many <= 6; many++) {
            String shelf = text.toString();
            for (int set = 0; set < 128; set++) {
                int asked = set;
                TwinShelf x = Check.with(shelf);
                boolean is = set < 1 << many;
                e.due("part(" + set + ") of " + many, x.part(asked), is);
                e.due("status()", x.status(), is ? 0 : 1);
                e.due("told(6)", x.told(6), is ? set : 0);
                e.due("lost(" + set + ") of " + many, x.lost(asked), is ? 0 : -1);
                e.due("status()", x.status(), is ? 0 : 1);
            }
            if (many < 6) {
                text.append("keeper ").append(names[many]).append(" at ").append(many).append(';');
            }
        }
    }

    private static void tapeAndFault(Edge e) {
        e.terms("and changes nothing else (but shelf(), days() with 9 the tape, and what fault() tells).");
        TwinShelf x = Edge.richFed();
        e.due("shelf() with 9", x.shelf(40), -1);
        e.due("status()", x.status(), 9);
        e.due("fault(0)", x.fault(0), 2);
        e.due("the tape is empty", x.feed(0, 0, 0, 0, 0), 20);
        x = Edge.richFed();
        e.due("days() with 9", x.days(40), -1);
        e.due("status()", x.status(), 9);
        e.due("fault(0)", x.fault(0), 2);
        e.due("fault(1)", x.fault(1), 0);
        e.due("the tape is empty", x.feed(0, 0, 0, 0, 0), 20);
        x = Edge.richFed();
        e.due("shelf() with 1", x.shelf(41), -1);
        e.due("days() with 1", x.days(41), -1);
        e.due("fault(0) as it was", x.fault(0), 0);
        e.due("the tape as it was", x.feed(0, 0, 0, 0, 0), 60);
        e.fine(x, "its first bytes, too", x.shelf(29), 0);
        e.fine(x, "told(3)", x.told(3), 2);
    }
}
