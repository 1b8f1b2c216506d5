/** Promises 17 to 28: put, strike, add, get, got, isDone, fall, wipe, part, hand, night, bury. */
public final class DoTest {
    private static final Check CHECK = new Check("DoTest");
    /** Rows: x a b c d e, y d e a b c, s c d e a b; the first three of each are its places. */
    private static final String FIVE = "places 3 reads 2 writes 3;keeper a at 0;keeper b at 100;keeper c at 200;"
        + "keeper d at 300;keeper e at 400;key x at 0;key y at 250;key s at 150 sum;";
    private static final String ONE = "keeper a at 1;key x at 1;";

    public static void main(String[] args) {
        putAndHints();
        putRefusals();
        tickets();
        twinsUnseen();
        dots();
        strikes();
        adds();
        gets();
        getRefusals();
        done();
        fallsAndParts();
        wipes();
        hands();
        nights();
        buries();
        CHECK.end();
    }

    private static void putAndHints() {
        TwinShelf x = Check.with(FIVE);
        CHECK.fine(x, "put to three places", x.put(0, 0, 5, -1), 3);
        CHECK.fine(x, "isDone()", x.isDone(), 1);
        for (int keeper = 0; keeper < 5; keeper++) {
            CHECK.fine(x, "twins(" + keeper + ", 0)", x.twins(keeper, 0), keeper < 3 ? 1 : 0);
        }
        x.fall(1, true);
        x.fall(2, true);
        CHECK.fine(x, "put with two watchers", x.put(0, 0, 6, -1), 3);
        CHECK.fine(x, "isDone()", x.isDone(), 1);
        CHECK.fine(x, "hints(3)", x.hints(3), 1);
        CHECK.fine(x, "hints(4)", x.hints(4), 1);
        CHECK.fine(x, "hints(0)", x.hints(0), 0);
        CHECK.fine(x, "put again", x.put(0, 0, 7, -1), 3);
        CHECK.fine(x, "hints(3), joined", x.hints(3), 1);
        CHECK.fine(x, "a watcher has no twins of its own", x.twins(3, 0), 0);
        x.fall(3, true);
        CHECK.fine(x, "put with one watcher", x.put(0, 0, 8, -1), 2);
        CHECK.fine(x, "isDone()", x.isDone(), 0);
        CHECK.fine(x, "hints(4) for both", x.hints(4), 2);
        CHECK.fine(x, "it stays all the same", x.twins(0, 0), 4);
        x.fall(1, false);
        CHECK.fine(x, "hand() to b alone, by e alone", x.hand(), 1);
        CHECK.fine(x, "hints(4)", x.hints(4), 1);
        CHECK.fine(x, "hints(3)", x.hints(3), 1);
        CHECK.fine(x, "b took in all", x.twins(1, 0), 4);
        CHECK.fine(x, "b's seen of a", x.seen(1, 0, 0), 4);
        CHECK.fine(x, "c has the first alone", x.twins(2, 0), 1);
        // a parted keeper has no watchers but those on its side
        x = Check.with(FIVE);
        x.part(1 | 16);
        CHECK.fine(x, "put, parted with e", x.put(0, 0, 1, -1), 2);
        CHECK.fine(x, "hints(4)", x.hints(4), 1);
        CHECK.fine(x, "hints(3)", x.hints(3), 0);
        x.part(0);
        CHECK.fine(x, "e's hint is for b", x.hand(), 1);
        CHECK.fine(x, "twins(1, 0)", x.twins(1, 0), 1);
        CHECK.fine(x, "twins(2, 0)", x.twins(2, 0), 0);
    }

    private static void putRefusals() {
        TwinShelf x = Check.with(FIVE);
        CHECK.not(x, "key 3", x.put(3, 0, 1, -1), 1);
        CHECK.not(x, "key -1", x.put(-1, 0, 1, -1), 1);
        CHECK.not(x, "keeper 5", x.put(0, 5, 1, -1), 1);
        CHECK.not(x, "keeper -1", x.put(0, -1, 1, -1), 1);
        CHECK.not(x, "value -1", x.put(0, 0, -1, -1), 1);
        CHECK.not(x, "value 1000", x.put(0, 0, 1000, -1), 1);
        CHECK.not(x, "ticket 4", x.put(0, 0, 1, 4), 1);
        CHECK.not(x, "ticket -2", x.put(0, 0, 1, -2), 1);
        CHECK.not(x, "no ticket there", x.put(0, 0, 1, 3), 6);
        CHECK.not(x, "no ticket there, no place", x.put(0, 4, 1, 3), 6);
        CHECK.not(x, "a sum", x.put(2, 2, 1, -1), 7);
        CHECK.not(x, "no place", x.put(0, 3, 1, -1), 7);
        x.get(1, 0, 3);
        CHECK.not(x, "a ticket of another key", x.put(0, 0, 1, 3), 7);
        x.fall(0, true);
        CHECK.not(x, "not up", x.put(0, 0, 1, -1), 7);
        CHECK.not(x, "isDone() of none", x.isDone(), 6);
        CHECK.fine(x, "nothing has changed", x.alike(), 7);
        CHECK.fine(x, "value 0", x.put(0, 1, 0, -1), 3);
        CHECK.fine(x, "value 999", x.put(0, 1, 999, -1), 3);
    }

    private static void tickets() {
        TwinShelf x = Check.with(FIVE);
        for (int i = 0; i < 4; i++) {
            x.put(0, 0, 5 + i, -1);
        }
        CHECK.fine(x, "get(0, 4, 0)", x.get(0, 4, 0), 4);
        CHECK.fine(x, "ticket(0, 0)", x.ticket(0, 0), 4);
        CHECK.fine(x, "ticket(0, 1)", x.ticket(0, 1), 0);
        CHECK.fine(x, "ticket(0, -1)", x.ticket(0, -1), 0);
        CHECK.not(x, "ticket(1, -1)", x.ticket(1, -1), 6);
        CHECK.not(x, "ticket(4, 0)", x.ticket(4, 0), 1);
        CHECK.not(x, "ticket(-1, 0)", x.ticket(-1, 0), 1);
        CHECK.not(x, "ticket(0, 5)", x.ticket(0, 5), 1);
        CHECK.not(x, "ticket(1, -2)", x.ticket(1, -2), 1);
        x.put(0, 2, 50, -1);
        CHECK.fine(x, "put by b with what was seen", x.put(0, 1, 9, 0), 3);
        // the four are gone everywhere; the one that was not seen stays
        for (int keeper = 0; keeper < 3; keeper++) {
            CHECK.fine(x, "twins", x.twins(keeper, 0), 2);
            CHECK.fine(x, "twin 0", x.twin(keeper, 0, 0, 0), 9);
            CHECK.fine(x, "its keeper", x.twin(keeper, 0, 0, 1), 1);
            CHECK.fine(x, "its count", x.twin(keeper, 0, 0, 2), 1);
            CHECK.fine(x, "twin 1", x.twin(keeper, 0, 1, 0), 50);
            CHECK.fine(x, "seen of a", x.seen(keeper, 0, 0), 4);
        }
        // a ticket stays as it was told, and can be used again
        CHECK.fine(x, "ticket(0, 1)", x.ticket(0, 1), 0);
        CHECK.fine(x, "put with it once more", x.put(0, 1, 10, 0), 3);
        CHECK.fine(x, "what it has not seen stays", x.twins(0, 0), 3);
        // what the ticket has seen is seen by who puts, even if it never had it
        x = Check.with(FIVE);
        x.put(1, 3, 1, -1);
        x.get(1, 3, 1);
        x.wipe(3);
        x.wipe(4);
        CHECK.fine(x, "put by e, wiped", x.put(1, 4, 2, 1), 3);
        CHECK.fine(x, "seen(4, 1, 3)", x.seen(4, 1, 3), 1);
        CHECK.fine(x, "a lost what was seen", x.twins(0, 1), 1);
        CHECK.fine(x, "and has the new one", x.twin(0, 1, 0, 0), 2);
    }

    private static void twinsUnseen() {
        TwinShelf x = Check.with(FIVE);
        x.put(0, 0, 1, -1);
        x.get(0, 0, 0);
        x.part(1);
        x.put(0, 0, 2, 0);
        x.put(0, 1, 3, 0);
        x.part(0);
        CHECK.fine(x, "a's one", x.twin(0, 0, 0, 0), 2);
        CHECK.fine(x, "b's one", x.twin(1, 0, 0, 0), 3);
        CHECK.fine(x, "get of both", x.get(0, 3, 1), 2);
        CHECK.fine(x, "got(0)", x.got(0), 2);
        CHECK.fine(x, "got(1)", x.got(1), 3);
        CHECK.fine(x, "those asked have both", x.twins(0, 0), 2);
        CHECK.fine(x, "c was not asked", x.twins(2, 0), 1);
        CHECK.fine(x, "put that saw both", x.put(0, 2, 4, 1), 3);
        CHECK.fine(x, "one is left", x.twins(1, 0), 1);
        CHECK.fine(x, "the new one", x.twin(1, 0, 0, 0), 4);
    }

    private static void dots() {
        TwinShelf x = Check.with(ONE);
        for (int i = 1; i <= 30; i++) {
            CHECK.fine(x, "put " + i, i % 2 == 0 ? x.put(0, 0, i, -1) : x.strike(0, 0, -1), 1);
            CHECK.fine(x, "its count", x.twin(0, 0, i - 1, 2), i);
        }
        CHECK.fine(x, "twins(0, 0)", x.twins(0, 0), 30);
        CHECK.not(x, "a 31st put", x.put(0, 0, 1, -1), 7);
        CHECK.not(x, "a 31st strike", x.strike(0, 0, -1), 7);
        CHECK.fine(x, "get of thirty", x.get(0, 0, 0), 30);
        CHECK.fine(x, "got(0)", x.got(0), 1000);
        CHECK.fine(x, "got(29)", x.got(29), 30);
        CHECK.not(x, "with a ticket", x.put(0, 0, 1, 0), 7);
        x.wipe(0);
        CHECK.not(x, "wiped", x.put(0, 0, 1, -1), 7);
        x = Check.with("keeper a at 1;keeper b at 2;key x at 1;");
        for (int i = 0; i < 30; i++) {
            x.put(0, 0, i, -1);
        }
        CHECK.fine(x, "get of thirty by b", x.get(0, 1, 0), 30);
        CHECK.fine(x, "put that saw all thirty", x.put(0, 1, 77, 0), 2);
        CHECK.fine(x, "a lost them", x.twins(0, 0), 1);
        CHECK.fine(x, "twin(0, 0, 0, 1)", x.twin(0, 0, 0, 1), 1);
        x = Check.with("keeper a at 1;key x at 1;key y at 1;");
        x.put(0, 0, 1, -1);
        x.put(0, 0, 2, -1);
        x.wipe(0);
        x.put(0, 0, 3, -1);
        CHECK.fine(x, "the count behind a wipe", x.twin(0, 0, 0, 2), 3);
        CHECK.fine(x, "seen behind a wipe", x.seen(0, 0, 0), 3);
        x.put(1, 0, 3, -1);
        CHECK.fine(x, "each key has counts of its own", x.twin(0, 1, 0, 2), 1);
    }

    private static void strikes() {
        TwinShelf x = Check.with(FIVE);
        CHECK.fine(x, "strike of nothing", x.strike(0, 0, -1), 3);
        CHECK.fine(x, "isDone()", x.isDone(), 1);
        CHECK.fine(x, "a grave", x.twin(1, 0, 0, 0), 1000);
        x.put(0, 0, 4, -1);
        x.get(0, 0, 2);
        CHECK.fine(x, "strike by a ticket", x.strike(0, 1, 2), 3);
        CHECK.fine(x, "twins", x.twins(2, 0), 1);
        CHECK.fine(x, "the grave of b", x.twin(2, 0, 0, 1), 1);
        CHECK.not(x, "key 3", x.strike(3, 0, -1), 1);
        CHECK.not(x, "keeper 5", x.strike(0, 5, -1), 1);
        CHECK.not(x, "ticket 4", x.strike(0, 0, 4), 1);
        CHECK.not(x, "ticket -2", x.strike(0, 0, -2), 1);
        CHECK.not(x, "no ticket there", x.strike(0, 0, 0), 6);
        CHECK.not(x, "a sum", x.strike(2, 2, -1), 7);
        CHECK.not(x, "a ticket of another key", x.strike(1, 0, 2), 7);
        CHECK.not(x, "no place", x.strike(0, 4, -1), 7);
        x.fall(1, true);
        CHECK.not(x, "not up", x.strike(0, 1, -1), 7);
    }

    private static void adds() {
        TwinShelf x = Check.with(FIVE);
        CHECK.fine(x, "add", x.add(2, 2, 999), 3);
        CHECK.fine(x, "isDone()", x.isDone(), 1);
        CHECK.fine(x, "add more", x.add(2, 2, 1), 3);
        CHECK.fine(x, "add by d", x.add(2, 3, 7), 3);
        CHECK.fine(x, "partOf(4, 2, 2)", x.partOf(4, 2, 2), 1000);
        CHECK.fine(x, "partOf(4, 2, 3)", x.partOf(4, 2, 3), 7);
        CHECK.fine(x, "partOf(0, 2, 3)", x.partOf(0, 2, 3), 0);
        x.part(4);
        CHECK.fine(x, "add, parted from all", x.add(2, 2, 5), 1);
        CHECK.fine(x, "isDone()", x.isDone(), 0);
        CHECK.fine(x, "add with a watcher", x.add(2, 4, 5), 3);
        CHECK.fine(x, "hints(0)", x.hints(0), 1);
        x.part(0);
        CHECK.fine(x, "c's part of e", x.partOf(2, 2, 4), 0);
        CHECK.fine(x, "hand()", x.hand(), 1);
        CHECK.fine(x, "c's part of e, handed on", x.partOf(2, 2, 4), 5);
        CHECK.fine(x, "c's own part", x.partOf(2, 2, 2), 1005);
        CHECK.fine(x, "d's part of c", x.partOf(3, 2, 2), 1000);
        CHECK.fine(x, "get by the greater of each", x.get(2, 0, -1), 1017);
        CHECK.fine(x, "d's part of c, as asked", x.partOf(3, 2, 2), 1005);
        CHECK.fine(x, "e was not asked", x.partOf(4, 2, 2), 1000);
        CHECK.not(x, "n 0", x.add(2, 2, 0), 1);
        CHECK.not(x, "n 1000", x.add(2, 2, 1000), 1);
        CHECK.not(x, "key 3", x.add(3, 2, 1), 1);
        CHECK.not(x, "keeper -1", x.add(2, -1, 1), 1);
        CHECK.not(x, "no sum", x.add(0, 0, 1), 7);
        CHECK.not(x, "no place", x.add(2, 0, 1), 7);
        x.fall(2, true);
        CHECK.not(x, "not up", x.add(2, 2, 1), 7);
        x.fall(2, false);
        x.wipe(2);
        CHECK.fine(x, "add behind a wipe", x.add(2, 2, 3), 3);
        CHECK.fine(x, "its own part begins anew", x.partOf(2, 2, 2), 3);
        CHECK.fine(x, "the others keep the greater", x.partOf(3, 2, 2), 1005);
    }

    private static void gets() {
        TwinShelf x = Check.with(FIVE);
        CHECK.fine(x, "get of nothing", x.get(0, 0, 1), 0);
        CHECK.not(x, "got(0)", x.got(0), 6);
        CHECK.fine(x, "a ticket of nothing", x.ticket(1, 0), 0);
        x.part(1);
        x.put(0, 0, 1, -1);
        x.part(0);
        x.fall(0, true);
        CHECK.fine(x, "get asks b and c", x.get(0, 4, -1), 0);
        x.fall(0, false);
        CHECK.fine(x, "get asks a and b", x.get(0, 4, -1), 1);
        CHECK.fine(x, "b has it then", x.twins(1, 0), 1);
        CHECK.fine(x, "c not", x.twins(2, 0), 0);
        CHECK.fine(x, "told(7): no ticket", x.told(7), 2);
        x.part(4 | 16);
        CHECK.not(x, "e reaches c alone", x.get(0, 4, 0), 7);
        CHECK.fine(x, "got() is of the latest one that could be", x.got(0), 1);
        CHECK.not(x, "got(-1)", x.got(-1), 6);
        CHECK.not(x, "got(1)", x.got(1), 6);
        CHECK.fine(x, "told(7)", x.told(7), 2);
        x.part(0);
        CHECK.fine(x, "get of a sum", x.get(2, 0, 0), 0);
        CHECK.fine(x, "no ticket of a sum", x.told(7), 2);
        CHECK.not(x, "got(0) of a sum", x.got(0), 6);
        x.get(0, 0, 1);
        x.get(2, 0, 1);
        CHECK.fine(x, "ticket 1 stays as it was", x.ticket(1, -1), 0);
        x.get(1, 0, 1);
        CHECK.fine(x, "ticket 1 is told anew", x.ticket(1, -1), 1);
    }

    private static void getRefusals() {
        TwinShelf x = Check.with(FIVE);
        CHECK.not(x, "key 3", x.get(3, 0, -1), 1);
        CHECK.not(x, "keeper 5", x.get(0, 5, -1), 1);
        CHECK.not(x, "ticket 4", x.get(0, 0, 4), 1);
        CHECK.not(x, "ticket -2", x.get(0, 0, -2), 1);
        x.fall(4, true);
        CHECK.not(x, "not up", x.get(0, 4, -1), 7);
        x.fall(0, true);
        CHECK.fine(x, "two are left", x.get(0, 3, -1), 0);
        x.fall(1, true);
        CHECK.not(x, "one is left", x.get(0, 3, -1), 7);
        // more reads than there are keepers
        x = Check.with("places 3 reads 3 writes 3;keeper a at 1;keeper b at 2;key x at 1;");
        CHECK.not(x, "never", x.get(0, 0, -1), 7);
        CHECK.fine(x, "put, not done", x.put(0, 0, 1, -1), 2);
        CHECK.fine(x, "isDone()", x.isDone(), 0);
    }

    private static void done() {
        TwinShelf x = Check.with(FIVE);
        CHECK.not(x, "isDone() ahead of any", x.isDone(), 6);
        x.put(0, 9, 1, -1);
        CHECK.not(x, "isDone() behind a refusal", x.isDone(), 6);
        x.put(0, 0, 1, -1);
        x.part(1);
        CHECK.fine(x, "isDone()", x.isDone(), 1);
        x.strike(0, 0, -1);
        CHECK.fine(x, "isDone()", x.isDone(), 0);
        x.put(0, 4, 1, -1);
        CHECK.fine(x, "isDone() is of the latest that could be", x.isDone(), 0);
        x.shelf(0);
        CHECK.fine(x, "isDone() with another shelf", x.isDone(), 0);
    }

    private static void fallsAndParts() {
        TwinShelf x = Check.with(FIVE);
        x.put(0, 0, 1, -1);
        CHECK.fine(x, "fall(0, true)", x.fall(0, true));
        CHECK.fine(x, "fall(0, true) again", x.fall(0, true));
        CHECK.fine(x, "told(5)", x.told(5), 30);
        CHECK.fine(x, "what it has stays", x.twins(0, 0), 1);
        CHECK.fine(x, "fall(0, false)", x.fall(0, false));
        CHECK.fine(x, "told(5)", x.told(5), 31);
        CHECK.not(x, "fall(5, true)", x.fall(5, true), 1);
        CHECK.not(x, "fall(-1, false)", x.fall(-1, false), 1);
        CHECK.fine(x, "part(5)", x.part(5));
        CHECK.fine(x, "part(2)", x.part(2));
        CHECK.fine(x, "a new one takes the place", x.reach(0, 2), 1);
        CHECK.not(x, "part(32)", x.part(32), 1);
        CHECK.not(x, "part(-1)", x.part(-1), 1);
        CHECK.fine(x, "told(6)", x.told(6), 2);
        CHECK.fine(x, "part(31)", x.part(31));
        CHECK.fine(x, "told(6)", x.told(6), 31);
        CHECK.fine(x, "part(0)", x.part(0));
        CHECK.fine(x, "told(6)", x.told(6), 0);
    }

    private static void wipes() {
        TwinShelf x = Check.with(FIVE);
        x.put(0, 0, 1, -1);
        x.fall(4, true);
        x.put(1, 0, 1, -1);
        x.put(1, 3, 1, -1);
        CHECK.fine(x, "hints(1)", x.hints(1), 1);
        CHECK.fine(x, "wipe(1)", x.wipe(1));
        CHECK.fine(x, "twins(1, 0)", x.twins(1, 0), 0);
        CHECK.fine(x, "seen(1, 0, 0)", x.seen(1, 0, 0), 0);
        CHECK.fine(x, "hints(1)", x.hints(1), 0);
        CHECK.fine(x, "twins(0, 0)", x.twins(0, 0), 1);
        x.fall(4, false);
        CHECK.fine(x, "hand()", x.hand(), 0);
        // hints that others have for it stay; one that is not up is wiped, too
        x.fall(4, true);
        x.put(1, 0, 2, -1);
        CHECK.fine(x, "wipe(4)", x.wipe(4));
        CHECK.fine(x, "it stays fallen", x.told(5), 15);
        x.fall(4, false);
        CHECK.fine(x, "hand()", x.hand(), 1);
        CHECK.fine(x, "twins(4, 1)", x.twins(4, 1), 3);
        CHECK.not(x, "wipe(5)", x.wipe(5), 1);
        CHECK.not(x, "wipe(-1)", x.wipe(-1), 1);
    }

    private static void hands() {
        TwinShelf x = Check.with(FIVE);
        CHECK.fine(x, "hand() of none", x.hand(), 0);
        x.fall(2, true);
        x.put(0, 0, 1, -1);
        x.add(2, 3, 4);
        CHECK.fine(x, "hand() to the fallen", x.hand(), 0);
        x.fall(2, false);
        x.part(4);
        CHECK.fine(x, "hand() to the parted", x.hand(), 0);
        x.part(0);
        x.fall(3, true);
        CHECK.fine(x, "hand() by a alone", x.hand(), 1);
        CHECK.fine(x, "c's part of d", x.partOf(2, 2, 3), 4);
        x.fall(3, false);
        CHECK.fine(x, "hand() by d", x.hand(), 1);
        CHECK.fine(x, "c's twin", x.twin(2, 0, 0, 0), 1);
        CHECK.fine(x, "they are gone", x.hand(), 0);
        // an old hint takes nothing back
        x.fall(2, true);
        x.put(0, 0, 2, -1);
        x.fall(2, false);
        x.get(0, 0, 0);
        x.put(0, 0, 3, 0);
        CHECK.fine(x, "c has the newest alone", x.twins(2, 0), 1);
        CHECK.fine(x, "hand()", x.hand(), 1);
        CHECK.fine(x, "c still has it alone", x.twins(2, 0), 1);
        CHECK.fine(x, "it is the newest", x.twin(2, 0, 0, 0), 3);
    }

    private static void nights() {
        TwinShelf x = Check.with(FIVE);
        x.part(1);
        x.put(0, 0, 1, -1);
        x.put(1, 0, 2, -1);
        x.put(0, 1, 3, -1);
        CHECK.not(x, "night of parted ones", x.night(0, 1), 7);
        x.part(0);
        CHECK.fine(x, "night(0, 1): x alone is of both", x.night(0, 1), 1);
        CHECK.fine(x, "twins(0, 0)", x.twins(0, 0), 2);
        CHECK.fine(x, "twins(1, 0)", x.twins(1, 0), 2);
        CHECK.fine(x, "night(0, 1) again", x.night(0, 1), 0);
        CHECK.fine(x, "night(4, 0): y alone is of both", x.night(4, 0), 1);
        CHECK.fine(x, "twins(4, 1)", x.twins(4, 1), 1);
        CHECK.fine(x, "night(1, 3): no key is of both", x.night(1, 3), 0);
        CHECK.not(x, "night(2, 2)", x.night(2, 2), 1);
        CHECK.not(x, "night(0, 5)", x.night(0, 5), 1);
        CHECK.not(x, "night(-1, 0)", x.night(-1, 0), 1);
        x.fall(2, true);
        CHECK.not(x, "night of a fallen one", x.night(2, 0), 7);
    }

    private static void buries() {
        TwinShelf x = Check.with(FIVE);
        x.strike(0, 0, -1);
        x.strike(0, 1, -1);
        x.put(0, 2, 5, -1);
        x.part(1);
        CHECK.fine(x, "bury(0), though parted", x.bury(0), 2);
        for (int keeper = 0; keeper < 3; keeper++) {
            CHECK.fine(x, "twins", x.twins(keeper, 0), 1);
            CHECK.fine(x, "the value stays", x.twin(keeper, 0, 0, 0), 5);
            CHECK.fine(x, "seen stays", x.seen(keeper, 0, 0), 1);
        }
        CHECK.fine(x, "bury(0) again", x.bury(0), 0);
        x.strike(0, 0, -1);
        CHECK.not(x, "not alike", x.bury(0), 7);
        x.part(0);
        x.night(0, 1);
        x.night(0, 2);
        x.fall(1, true);
        CHECK.not(x, "not all up", x.bury(0), 7);
        x.fall(1, false);
        x.fall(4, true);
        CHECK.fine(x, "a watcher need not be up", x.bury(0), 1);
        CHECK.not(x, "a sum", x.bury(2), 7);
        CHECK.not(x, "bury(3)", x.bury(3), 1);
        CHECK.not(x, "bury(-1)", x.bury(-1), 1);
    }
}
