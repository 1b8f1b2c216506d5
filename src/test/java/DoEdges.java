/** Edges of what is done: part 2 of the terms, promises 17 to 28. */
final class DoEdges {
    private static final String TWO = "places 2 reads 1 writes 1;keeper a at 0;keeper b at 1;key x at 0;key s at 0 sum;";

    private DoEdges() {
    }

    static void run(Edge e) {
        values(e);
        nothingAtFirst(e);
        joinOfDots(e);
        joinOfParts(e);
        orderOfTwins(e);
        parted(e);
        reached(e);
        seenUpTo(e);
        placesThatPut(e);
        ticketsOfPut(e);
        ticketLoses(e);
        thirtyDots(e);
        strikes(e);
        givenToPlaces(e);
        givenAsHint(e);
        watchers(e);
        watchersInOrder(e);
        hintsJoined(e);
        done(e);
        addNumbers(e);
        getAsks(e);
        getTooFew(e);
        getTold(e);
        ticketsOfGet(e);
        fallAndWipe(e);
        hands(e);
        nights(e);
        buries(e);
        putRefusals(e);
        strikeRefusals(e);
        addRefusals(e);
        getRefusals(e);
        got(e);
        isDone(e);
        falls(e);
        wipes(e);
        partSets(e);
        handTells(e);
        nightRefusals(e);
        buryRefusals(e);
    }

    private static void values(Edge e) {
        e.terms("TWINS, each a value (0 to 999; or a GRAVE) with a DOT: a KEEPER and a count");
        TwinShelf x = Check.with(Edge.FIVE);
        int[] values = {0, 1, 998, 999};
        for (int i = 0; i < values.length; i++) {
            e.fine(x, "put of " + values[i], x.put(0, 1, values[i], -1), 3);
            e.twin(x, 2, 0, i, values[i], 1, i + 1);
        }
        e.fine(x, "strike", x.strike(0, 1, -1), 3);
        e.twin(x, 2, 0, 4, 1000, 1, 5);
        for (int odd : new int[] {-1, 1000, 1001, Integer.MIN_VALUE, Integer.MAX_VALUE}) {
            e.not(Edge::rich, "put of " + odd, y -> y.put(0, 0, odd, -1), 1);
        }
    }

    private static void nothingAtFirst(Edge e) {
        e.terms("Nothing at first: no TWINS, SEEN 0 of each. Of a KEY that is a sum: for each KEEPER a PART of the sum"
            + " (at first 0), nothing else.");
        TwinShelf x = Check.with(Edge.FIVE);
        for (int keeper = 0; keeper < 5; keeper++) {
            for (int key = 0; key < 3; key++) {
                e.fine(x, "twins", x.twins(keeper, key), 0);
                for (int of = 0; of < 5; of++) {
                    e.fine(x, "seen", x.seen(keeper, key, of), 0);
                }
            }
            e.fine(x, "hints", x.hints(keeper), 0);
            e.fine(x, "partOf", x.partOf(keeper, 2, keeper), 0);
            e.fine(x, "root", x.root(keeper), 0);
        }
        e.fine(x, "get of nothing", x.get(0, 0, -1), 0);
        e.fine(x, "get of a sum of nothing", x.get(2, 0, -1), 0);
        x.add(2, 2, 5);
        e.fine(x, "a sum has no TWINS", x.twins(2, 2), 0);
        e.fine(x, "a sum has no SEEN", x.seen(2, 2, 2), 0);
    }

    private static void joinOfDots(Edge e) {
        e.terms("JOIN of two such: SEEN the greater of each; of TWINS those that both have, and those of one whose DOT the"
            + " other one has not SEEN");
        TwinShelf x = Check.with(TWO);
        x.put(0, 0, 1, -1);
        x.part(1);
        x.put(0, 0, 2, -1);
        x.get(0, 1, 0);
        x.put(0, 1, 3, 0);
        x.part(0);
        // a has its DOTS 1 and 2; b has SEEN the first of them, and not the second
        e.fine(x, "twins(0, 0)", x.twins(0, 0), 2);
        e.fine(x, "twins(1, 0)", x.twins(1, 0), 1);
        e.fine(x, "night(0, 1)", x.night(0, 1), 1);
        for (int keeper = 0; keeper < 2; keeper++) {
            e.fine(x, "twins", x.twins(keeper, 0), 2);
            e.twin(x, keeper, 0, 0, 2, 0, 2);
            e.twin(x, keeper, 0, 1, 3, 1, 1);
            e.fine(x, "SEEN of a", x.seen(keeper, 0, 0), 2);
            e.fine(x, "SEEN of b", x.seen(keeper, 0, 1), 1);
        }
        // those that both have stay, though both have SEEN them
        e.fine(x, "night(0, 1) of like ones", x.night(0, 1), 0);
        e.fine(x, "twins(1, 0)", x.twins(1, 0), 2);
        // and so with nothing at all on one side: nothing was SEEN there
        x.wipe(1);
        e.fine(x, "night(0, 1) with a wiped one", x.night(0, 1), 1);
        e.fine(x, "twins(1, 0)", x.twins(1, 0), 2);
        // the last of all DOTS, SEEN and not
        x = Check.with(TWO);
        for (int i = 1; i <= 29; i++) {
            x.put(0, 0, i, -1);
        }
        x.get(0, 0, 0);
        x.part(1);
        x.put(0, 0, 30, -1);
        x.put(0, 1, 77, 0);
        x.part(0);
        x.night(0, 1);
        e.fine(x, "the 30th alone is left of a's", x.twins(1, 0), 2);
        e.twin(x, 1, 0, 0, 30, 0, 30);
        e.twin(x, 1, 0, 1, 77, 1, 1);
        x.get(0, 0, 0);
        x.put(0, 1, 78, 0);
        e.fine(x, "behind a TICKET that has SEEN 30", x.twins(0, 0), 1);
    }

    private static void joinOfParts(Edge e) {
        e.terms("of a sum the greater PART of each.");
        TwinShelf x = Check.with(TWO);
        x.part(1);
        x.add(1, 0, 5);
        x.add(1, 1, 3);
        x.part(0);
        e.fine(x, "night(0, 1)", x.night(0, 1), 1);
        e.fine(x, "a's part of b", x.partOf(0, 1, 1), 3);
        e.fine(x, "b's part of a", x.partOf(1, 1, 0), 5);
        // one less, as much, one more than the other one has of b
        int[] begun = {2, 3, 4};
        int[] due = {3, 3, 4};
        for (int i = 0; i < 3; i++) {
            x.wipe(1);
            x.part(1);
            x.add(1, 1, begun[i]);
            x.part(0);
            x.night(1, 0);
            e.fine(x, "a's part of b, who began anew", x.partOf(0, 1, 1), due[i]);
            e.fine(x, "b's part of b", x.partOf(1, 1, 1), due[i]);
            e.fine(x, "b's part of a", x.partOf(1, 1, 0), 5);
        }
    }

    private static void orderOfTwins(Edge e) {
        e.terms("TWINS stand by the KEEPERS of their DOTS, of one by counts.");
        TwinShelf x = Check.with(Edge.FIVE);
        for (int i = 1; i <= 11; i++) {
            x.put(0, 1, 100 - i, -1);
        }
        x.put(0, 2, 4, -1);
        x.put(0, 0, 500, -1);
        e.twin(x, 2, 0, 0, 500, 0, 1);
        for (int i = 1; i <= 11; i++) {
            e.twin(x, 2, 0, i, 100 - i, 1, i);
        }
        e.twin(x, 2, 0, 12, 4, 2, 1);
        e.fine(x, "get", x.get(0, 4, -1), 13);
        e.fine(x, "got(0)", x.got(0), 500);
        e.fine(x, "got(1)", x.got(1), 99);
        e.fine(x, "got(11)", x.got(11), 89);
        e.fine(x, "got(12)", x.got(12), 4);
    }

    private static void parted(Edge e) {
        e.terms("PARTED: some KEEPERS (a set: 1 for KEEPER 0, 2 for 1 ..) REACH none of the others, and the other way round;"
            + " a new one takes the place of that ahead; HEALED: none.");
        TwinShelf x = Check.with(Edge.FIVE);
        for (int set = 0; set < 32; set++) {
            e.fine(x, "part(" + set + ")", x.part(set));
            for (int a = 0; a < 5; a++) {
                for (int b = 0; b < 5; b++) {
                    e.fine(x, "reach(" + a + ", " + b + ")", x.reach(a, b), (set >> a & 1) == (set >> b & 1) ? 1 : 0);
                }
            }
        }
    }

    private static void reached(Edge e) {
        e.terms("Two KEEPERS REACH one another if both are UP and no PART is between them.");
        for (int up = 0; up < 4; up++) {
            for (int set = 0; set < 4; set++) {
                TwinShelf x = Check.with(TWO);
                x.fall(0, (up & 1) == 0);
                x.fall(1, (up & 2) == 0);
                x.part(set);
                int due = up == 3 && (set == 0 || set == 3) ? 1 : 0;
                e.fine(x, "reach(0, 1)", x.reach(0, 1), due);
                e.fine(x, "reach(1, 0)", x.reach(1, 0), due);
                e.fine(x, "reach(0, 0)", x.reach(0, 0), up & 1);
                e.due("night(0, 1)", x.night(0, 1), due == 1 ? 0 : -1);
                if ((up & 1) == 1) {
                    e.fine(x, "put", x.put(0, 0, 1, -1), 1 + due);
                    e.fine(x, "get", x.get(0, 0, -1), 1);
                }
            }
        }
    }

    private static void seenUpTo(Edge e) {
        e.terms("and SEEN: for each KEEPER up to which count all its DOTS there were taken in.");
        TwinShelf x = Check.with(TWO);
        x.put(0, 0, 1, -1);
        x.part(1);
        x.put(0, 0, 2, -1);
        x.put(0, 0, 3, -1);
        e.fine(x, "b took in the first", x.seen(1, 0, 0), 1);
        x.part(0);
        x.night(0, 1);
        e.fine(x, "b took in all", x.seen(1, 0, 0), 3);
        x.get(0, 0, 0);
        x.put(0, 1, 4, 0);
        e.fine(x, "TWINS are gone, SEEN stays", x.seen(0, 0, 0), 3);
        e.fine(x, "twins(0, 0)", x.twins(0, 0), 1);
        // who was wiped begins with 0, and with the next DOT has SEEN all of its own
        x.wipe(0);
        e.fine(x, "wiped", x.seen(0, 0, 0), 0);
        x.put(0, 0, 5, -1);
        e.fine(x, "its fourth", x.seen(0, 0, 0), 4);
        e.fine(x, "of b it has SEEN none", x.seen(0, 0, 1), 0);
        e.fine(x, "b has both", x.twins(1, 0), 2);
    }

    private static void placesThatPut(Edge e) {
        e.terms("PUT of a value at a KEY (no sum) by a KEEPER, one of its PLACES that is UP");
        TwinShelf x = Check.with(Edge.FIVE);
        e.fine(x, "by the first PLACE of x", x.put(0, 0, 1, -1), 3);
        e.fine(x, "by the last PLACE of x", x.put(0, 2, 1, -1), 3);
        e.fine(x, "by the first PLACE of y", x.put(1, 3, 1, -1), 3);
        e.fine(x, "by the last PLACE of y", x.put(1, 0, 1, -1), 3);
        e.not(Edge::rich, "by the first of the WATCH of x", y -> y.put(0, 3, 1, -1), 7);
        e.not(Edge::rich, "by the last of the WATCH of x", y -> y.put(0, 4, 1, -1), 7);
        e.not(Edge::rich, "by the first of the WATCH of y", y -> y.put(1, 1, 1, -1), 7);
        e.not(Edge::rich, "by one that is not UP", y -> y.put(0, 2, 1, -1), 7);
        e.not(Edge::rich, "at a sum", y -> y.put(2, 3, 1, -1), 7);
        x.fall(0, true);
        x.fall(0, false);
        e.fine(x, "by one that is UP again", x.put(0, 0, 1, -1), 3);
        x.part(1);
        e.fine(x, "by one that is PARTED from all", x.put(0, 0, 1, -1), 1);
    }

    private static void ticketsOfPut(Edge e) {
        e.terms("with a TICKET (0 to 3) told at that KEY, or none");
        for (int ticket = 0; ticket < 4; ticket++) {
            TwinShelf x = Check.with(Edge.FIVE);
            x.put(0, 0, 1, -1);
            x.get(0, 0, ticket);
            e.fine(x, "with TICKET " + ticket, x.put(0, 0, 2, ticket), 3);
            e.fine(x, "what it has SEEN is gone", x.twins(0, 0), 1);
            e.fine(x, "with none", x.put(0, 0, 3, -1), 3);
            e.fine(x, "nothing is gone", x.twins(0, 0), 2);
        }
        for (int odd : Edge.ODD_TICKETS) {
            e.not(Edge::rich, "put with TICKET " + odd, y -> y.put(0, 0, 1, odd), 1);
            e.not(Edge::rich, "strike with TICKET " + odd, y -> y.strike(0, 0, odd), 1);
        }
    }

    private static void ticketLoses(Edge e) {
        e.terms("what the KEEPER has loses the TWINS that the TICKET has SEEN; SEEN becomes the greater of it and of the"
            + " TICKET's");
        TwinShelf x = Check.with(Edge.FIVE);
        x.put(0, 0, 1, -1);
        x.put(0, 0, 2, -1);
        x.get(0, 0, 3);
        x.put(0, 0, 3, -1);
        x.put(0, 1, 4, -1);
        e.fine(x, "put", x.put(0, 2, 5, 3), 3);
        // a's first and second were SEEN, its third not, nor b's first
        e.fine(x, "twins(2, 0)", x.twins(2, 0), 3);
        e.twin(x, 2, 0, 0, 3, 0, 3);
        e.twin(x, 2, 0, 1, 4, 1, 1);
        e.twin(x, 2, 0, 2, 5, 2, 1);
        e.fine(x, "SEEN of a, more than the TICKET's", x.seen(2, 0, 0), 3);
        e.fine(x, "get", x.get(0, 2, -1), 3);
        e.fine(x, "got(0)", x.got(0), 3);
        e.fine(x, "got(1)", x.got(1), 4);
        e.fine(x, "got(2)", x.got(2), 5);
        // a TICKET that has SEEN more than the KEEPER
        x.wipe(2);
        x.part(4);
        e.fine(x, "put by c, alone and wiped", x.put(0, 2, 6, 3), 1);
        e.fine(x, "SEEN of a, the TICKET's", x.seen(2, 0, 0), 2);
        e.fine(x, "SEEN of b", x.seen(2, 0, 1), 0);
        e.fine(x, "SEEN of itself", x.seen(2, 0, 2), 2);
        e.fine(x, "the TICKET stays", x.ticket(3, 0), 2);
    }

    private static TwinShelf thirtyGiven() {
        TwinShelf x = Edge.rich();
        // b struck once already
        for (int i = 2; i <= 30; i++) {
            x.put(0, 1, i, -1);
        }
        return x;
    }

    private static void thirtyDots(Edge e) {
        e.terms("one more than ever it gave there (1 to 30; a 31st can't be; WIPE does not change that), which is SEEN of"
            + " itself then.");
        TwinShelf x = Check.with(Edge.FIVE);
        for (int i = 1; i <= 30; i++) {
            e.fine(x, "put " + i, x.put(0, 1, i, -1), 3);
            e.fine(x, "its count", x.twin(1, 0, i - 1, 2), i);
            e.fine(x, "SEEN of itself", x.seen(1, 0, 1), i);
            e.fine(x, "SEEN by another", x.seen(0, 0, 1), i);
        }
        e.fine(x, "twins", x.twins(2, 0), 30);
        e.fine(x, "another KEEPER there", x.put(0, 0, 1, -1), 3);
        e.fine(x, "its count", x.twin(0, 0, 0, 2), 1);
        // a TICKET that has SEEN all thirty: the first goes, too, and the last
        x.get(0, 0, 0);
        e.fine(x, "a put with that TICKET", x.put(0, 2, 99, 0), 3);
        e.fine(x, "all thirty are gone", x.twins(2, 0), 1);
        e.fine(x, "everywhere", x.twins(1, 0), 1);
        e.not(DoEdges::thirtyGiven, "a 31st put", y -> y.put(0, 1, 31, -1), 7);
        e.not(DoEdges::thirtyGiven, "a 31st strike", y -> y.strike(0, 1, -1), 7);
        e.not(DoEdges::thirtyGiven, "a 31st put with a TICKET", y -> y.put(0, 1, 31, 1), 7);
        Edge.Made wiped = () -> {
            TwinShelf y = thirtyGiven();
            y.wipe(1);
            return y;
        };
        e.not(wiped, "a 31st put, wiped", y -> y.put(0, 1, 31, -1), 7);
        // a's counts at x and at y are two things
        x = Check.with(Edge.FIVE);
        for (int i = 1; i <= 29; i++) {
            x.strike(1, 0, -1);
        }
        x.wipe(0);
        e.fine(x, "the 30th, behind a wipe", x.put(1, 0, 1, -1), 3);
        e.fine(x, "its count", x.twin(0, 1, 0, 2), 30);
        e.due("the 31st", x.put(1, 0, 1, -1), -1);
        e.fine(x, "at another KEY", x.put(0, 0, 1, -1), 3);
        e.fine(x, "its count", x.twin(0, 0, 0, 2), 1);
    }

    private static void strikes(Edge e) {
        e.terms("So a STRIKE with a GRAVE as the value.");
        TwinShelf x = Check.with(Edge.FIVE);
        x.put(0, 0, 1, -1);
        x.get(0, 1, 0);
        x.put(0, 2, 2, -1);
        e.fine(x, "strike without a TICKET", x.strike(0, 1, -1), 3);
        e.fine(x, "nothing is gone", x.twins(2, 0), 3);
        e.fine(x, "strike with a TICKET", x.strike(0, 1, 0), 3);
        e.fine(x, "what it has SEEN is gone", x.twins(2, 0), 3);
        e.twin(x, 2, 0, 0, 1000, 1, 1);
        e.twin(x, 2, 0, 1, 1000, 1, 2);
        e.twin(x, 2, 0, 2, 2, 2, 1);
    }

    private static void givenToPlaces(Edge e) {
        e.terms("Then it is given to all other PLACES that it REACHES, in the order of the ROW, who JOIN it to what they have");
        TwinShelf x = Check.with(Edge.FIVE);
        x.part(1);
        x.put(0, 0, 1, -1);
        x.get(0, 0, 0);
        x.put(0, 1, 2, -1);
        x.part(1 | 2);
        // a gives all that it has: b has its own, too; c is not reached
        e.fine(x, "put", x.put(0, 0, 3, -1), 2);
        e.fine(x, "a has its own", x.twins(0, 0), 2);
        e.fine(x, "b has them, too", x.twins(1, 0), 3);
        e.twin(x, 1, 0, 0, 1, 0, 1);
        e.twin(x, 1, 0, 1, 3, 0, 2);
        e.twin(x, 1, 0, 2, 2, 1, 1);
        e.fine(x, "c has not", x.twins(2, 0), 1);
        e.fine(x, "no WATCHER has", x.twins(3, 0) + x.twins(4, 0), 0);
        x.part(0);
        // with JOIN goes what the giver has lost
        x.night(0, 1);
        x.get(0, 1, 0);
        e.fine(x, "put with a TICKET that has SEEN all", x.put(0, 0, 4, 0), 3);
        for (int keeper = 0; keeper < 3; keeper++) {
            e.fine(x, "twins(" + keeper + ", 0)", x.twins(keeper, 0), 1);
            e.twin(x, keeper, 0, 0, 4, 0, 3);
        }
    }

    private static void givenAsHint(Edge e) {
        e.terms(": what is given, for that one");
        TwinShelf x = Edge.fallen(1);
        x.put(0, 2, 1, -1);
        x.wipe(3);
        x.put(0, 0, 2, -1);
        // d has a new HINT with all that a has: the TWIN of c, too
        e.fine(x, "holders(0, 1)", x.holders(0, 1), 1 | 4 | 8);
        e.fine(x, "holders(0, 2)", x.holders(0, 2), 1 | 4 | 8);
        x.fall(1, false);
        e.fine(x, "hand()", x.hand(), 1);
        e.fine(x, "b has both", x.twins(1, 0), 2);
        e.fine(x, "SEEN, too", x.seen(1, 0, 2), 1);
        e.fine(x, "LIKE the giver", x.like(0, 1, 0), 1);
        e.fine(x, "d has nothing itself", x.twins(3, 0) + x.seen(3, 0, 0), 0);
        // what is not reached later on is not of the HINT
        x = Edge.fallen(1);
        x.put(0, 0, 1, -1);
        x.part(8);
        x.put(0, 0, 2, -1);
        x.part(0);
        e.fine(x, "d's HINT is the old one, e's the new one", x.holders(0, 2), 1 | 4 | 16);
        e.fine(x, "both have the first", x.holders(0, 1), 1 | 4 | 8 | 16);
        x.fall(1, false);
        e.fine(x, "hand() of both", x.hand(), 2);
        e.fine(x, "b has both", x.twins(1, 0), 2);
    }

    private static void hints(Edge e, TwinShelf x, int... due) {
        for (int keeper = 0; keeper < due.length; keeper++) {
            e.fine(x, "hints(" + keeper + ")", x.hints(keeper), due[keeper]);
        }
    }

    private static void watchers(Edge e) {
        e.terms("for each PLACE that it does not REACH, in that order, the next of its WATCH (each once), in the order of the"
            + " ROW, that it REACHES takes a HINT");
        e.terms("TOLD: how many have it so: itself, PLACES, WATCHERS with HINTS");
        TwinShelf x = Edge.fallen();
        e.fine(x, "all PLACES are reached", x.put(0, 0, 1, -1), 3);
        hints(e, x, 0, 0, 0, 0, 0);
        x = Edge.fallen(3, 4);
        e.fine(x, "no WATCHER is needed", x.put(0, 0, 1, -1), 3);
        x = Edge.fallen(1);
        e.fine(x, "one PLACE, two WATCHERS", x.put(0, 0, 1, -1), 3);
        hints(e, x, 0, 0, 0, 1, 0);
        x = Edge.fallen(1, 3);
        e.fine(x, "the first WATCHER is not UP", x.put(0, 0, 1, -1), 3);
        hints(e, x, 0, 0, 0, 0, 1);
        x = Edge.fallen(1, 2);
        e.fine(x, "two PLACES, two WATCHERS", x.put(0, 0, 1, -1), 3);
        hints(e, x, 0, 0, 0, 1, 1);
        x = Edge.fallen(1, 2, 3);
        e.fine(x, "two PLACES, one WATCHER", x.put(0, 0, 1, -1), 2);
        hints(e, x, 0, 0, 0, 0, 1);
        x = Edge.fallen(1, 2, 4);
        e.fine(x, "two PLACES, the other WATCHER", x.put(0, 0, 1, -1), 2);
        hints(e, x, 0, 0, 0, 1, 0);
        x = Edge.fallen(1, 2, 3, 4);
        e.fine(x, "two PLACES, no WATCHER", x.put(0, 0, 1, -1), 1);
        hints(e, x, 0, 0, 0, 0, 0);
        x = Edge.fallen();
        x.part(1 | 8);
        e.fine(x, "PARTED with one WATCHER", x.put(0, 0, 1, -1), 2);
        hints(e, x, 0, 0, 0, 1, 0);
        x = Check.with(TWO);
        x.part(2);
        e.fine(x, "there is no WATCH", x.put(0, 0, 1, -1), 1);
    }

    private static void watchersInOrder(Edge e) {
        e.terms("in that order, the next of its WATCH (each once), in the order of the ROW");
        // y: d e a are its PLACES, b c its WATCH; e and a are not reached: b has a HINT for e, c one for a
        TwinShelf x = Edge.fallen(4, 0);
        e.fine(x, "put", x.put(1, 3, 1, -1), 3);
        x.fall(1, true);
        x.fall(4, false);
        x.fall(0, false);
        e.fine(x, "hand() by c alone", x.hand(), 1);
        e.fine(x, "a has it", x.twins(0, 1), 1);
        e.fine(x, "e has not", x.twins(4, 1), 0);
        x.fall(1, false);
        e.fine(x, "hand() by b", x.hand(), 1);
        e.fine(x, "e has it", x.twins(4, 1), 1);
        // s: c d e are its PLACES, a b its WATCH; with one WATCHER the first PLACE that is not reached is served
        x = Edge.fallen(2, 4, 0);
        e.fine(x, "add", x.add(2, 3, 9), 2);
        hints(e, x, 0, 1, 0, 0, 0);
        x.fall(2, false);
        x.fall(4, false);
        e.fine(x, "hand()", x.hand(), 1);
        e.fine(x, "c has it", x.partOf(2, 2, 3), 9);
        e.fine(x, "e has not", x.partOf(4, 2, 3), 0);
    }

    private static void hintsJoined(Edge e) {
        e.terms("(JOINED to a HINT for the same KEEPER and KEY that it has)");
        TwinShelf x = Edge.fallen(1);
        x.put(0, 0, 1, -1);
        x.put(0, 0, 2, -1);
        hints(e, x, 0, 0, 0, 1, 0);
        x.get(0, 0, 0);
        x.put(0, 0, 3, 0);
        hints(e, x, 0, 0, 0, 1, 0);
        x.put(0, 2, 4, -1);
        e.fine(x, "holders(0, 1): a HINT loses what a TICKET has SEEN", x.holders(0, 1), 0);
        e.fine(x, "holders(0, 3)", x.holders(0, 3), 1 | 4 | 8);
        x.fall(1, false);
        e.fine(x, "hand()", x.hand(), 1);
        e.fine(x, "twins(1, 0)", x.twins(1, 0), 2);
        e.twin(x, 1, 0, 0, 3, 0, 3);
        e.twin(x, 1, 0, 1, 4, 2, 1);
        // for another KEEPER, or at another KEY, it is one HINT more
        x = Check.with("places 2 reads 1 writes 1;keeper a at 0;keeper b at 1;keeper c at 2;key x at 0;key y at 0;key z at 1;");
        x.fall(1, true);
        x.put(0, 0, 1, -1);
        x.put(1, 0, 1, -1);
        hints(e, x, 0, 0, 2);
        x.fall(1, false);
        x.fall(0, true);
        x.put(0, 1, 2, -1);
        hints(e, x, 0, 0, 3);
        x.put(0, 1, 3, -1);
        hints(e, x, 0, 0, 3);
        e.fine(x, "hand() to b", x.hand(), 2);
        x.fall(0, false);
        e.fine(x, "hand() to a", x.hand(), 1);
        e.fine(x, "twins(0, 0)", x.twins(0, 0), 3);
        e.fine(x, "twins(1, 0)", x.twins(1, 0), 3);
    }

    private static void done(Edge e) {
        e.terms("it is DONE if these are W at least, but stays all the same.");
        for (int w = 1; w <= 4; w++) {
            for (int up = 1; up <= 4; up++) {
                TwinShelf x = Check.with("places 4 reads 1 writes " + w + ";keeper a at 0;keeper b at 1;keeper c at 2;"
                    + "keeper d at 3;key x at 0;key s at 0 sum;");
                for (int keeper = up; keeper < 4; keeper++) {
                    x.fall(keeper, true);
                }
                e.fine(x, "put", x.put(0, 0, 1, -1), up);
                e.fine(x, "isDone() of put, " + up + " of " + w, x.isDone(), up >= w ? 1 : 0);
                e.fine(x, "strike", x.strike(0, 0, -1), up);
                e.fine(x, "isDone() of strike", x.isDone(), up >= w ? 1 : 0);
                e.fine(x, "add", x.add(1, 0, 6), up);
                e.fine(x, "isDone() of add", x.isDone(), up >= w ? 1 : 0);
                e.fine(x, "twins(0, 0)", x.twins(0, 0), 2);
                e.fine(x, "partOf(0, 1, 0)", x.partOf(0, 1, 0), 6);
            }
        }
        // a WATCHER with a HINT counts
        TwinShelf x = Edge.fallen(1, 2);
        x.put(0, 0, 1, -1);
        e.fine(x, "isDone() with two WATCHERS", x.isDone(), 1);
        x.fall(4, true);
        x.put(0, 0, 1, -1);
        e.fine(x, "isDone() with one WATCHER", x.isDone(), 0);
        // more writes than there are KEEPERS: never DONE
        x = Check.with("places 3 reads 1 writes 3;keeper a at 0;keeper b at 1;key x at 0;");
        x.put(0, 0, 1, -1);
        e.fine(x, "isDone() with two of three", x.isDone(), 0);
    }

    private static void addNumbers(Edge e) {
        e.terms("ADD of n (1 to 999) to a KEY that is a sum: likewise, but its own PART is n more, and there is no TICKET.");
        TwinShelf x = Check.with(Edge.FIVE);
        int[] numbers = {1, 2, 998, 999};
        int sum = 0;
        for (int n : numbers) {
            sum += n;
            e.fine(x, "add of " + n, x.add(2, 3, n), 3);
            e.fine(x, "its own PART", x.partOf(3, 2, 3), sum);
            e.fine(x, "another's", x.partOf(2, 2, 3), sum);
            e.fine(x, "the PART of another", x.partOf(2, 2, 2), 0);
        }
        for (int odd : new int[] {-1, 0, 1000, Integer.MIN_VALUE, Integer.MAX_VALUE}) {
            e.not(Edge::rich, "add of " + odd, y -> y.add(2, 3, odd), 1);
        }
        // sums grow as far as 512 calls can take them: each live() adds 296 times 999
        x = new TwinShelf();
        Check.shelf(x, "keeper a at 1;key s at 1 sum;");
        Check.days(x, "loop 99;loop 99;add s at a 999;end;end;");
        for (int i = 0; i < 500; i++) {
            x.live(0);
        }
        e.fine(x, "get", x.get(0, 0, -1), 500 * 296 * 999);
        e.fine(x, "root(0)", x.root(0), 500 * 296 * 999 % 1000003);
    }

    private static void getAsks(Edge e) {
        e.terms("it asks PLACES that it REACHES (itself, too, if it is one), in the order of the ROW, the first R of these");
        // each PLACE of x has one TWIN of its own
        for (int r = 1; r <= 3; r++) {
            TwinShelf x = Check.with(Edge.FIVE.replace("reads 2", "reads " + r));
            for (int keeper = 0; keeper < 3; keeper++) {
                x.part(1 << keeper);
                x.put(0, keeper, 10 + keeper, -1);
            }
            x.part(0);
            e.fine(x, "get by e of " + r, x.get(0, 4, 0), r);
            for (int keeper = 0; keeper < 3; keeper++) {
                e.due("got(" + keeper + ")", x.got(keeper), keeper < r ? 10 + keeper : -1);
                e.fine(x, "twins(" + keeper + ", 0)", x.twins(keeper, 0), keeper < r ? r : 1);
                e.fine(x, "ticket(0, " + keeper + ")", x.ticket(0, keeper), keeper < r ? 1 : 0);
            }
        }
        TwinShelf x = Check.with(Edge.FIVE);
        for (int keeper = 0; keeper < 3; keeper++) {
            x.part(1 << keeper);
            x.put(0, keeper, 10 + keeper, -1);
        }
        x.part(0);
        x.fall(0, true);
        e.fine(x, "get without the first PLACE", x.get(0, 2, -1), 2);
        e.fine(x, "got(0)", x.got(0), 11);
        e.fine(x, "got(1)", x.got(1), 12);
        e.fine(x, "a was not asked", x.twins(0, 0), 1);
        x.fall(0, false);
        // in the ROW of y: d, e, a, not by numbers
        x = Check.with(Edge.FIVE.replace("reads 2", "reads 1"));
        x.part(1);
        x.put(1, 0, 1, -1);
        x.part(8);
        x.put(1, 3, 2, -1);
        x.part(0);
        e.fine(x, "get of y asks d", x.get(1, 0, -1), 1);
        e.fine(x, "got(0)", x.got(0), 2);
        x.part(1);
        e.fine(x, "a asks itself", x.get(1, 0, -1), 1);
        e.fine(x, "got(0)", x.got(0), 1);
    }

    private static void getTooFew(Edge e) {
        e.terms("if there are not so many, it can't be.");
        TwinShelf x = Edge.fallen(0);
        e.fine(x, "two of two", x.get(0, 4, -1), 0);
        e.not(() -> Edge.fallen(0, 1), "one of two", y -> y.get(0, 4, 0), 7);
        e.not(() -> Edge.fallen(0, 1, 2), "none of two", y -> y.get(0, 4, 0), 7);
        e.not(Edge::rich, "itself alone of two", y -> y.get(1, 4, 0), 7);
        Edge.Made few = () -> Check.with("places 3 reads 3 writes 1;keeper a at 0;keeper b at 1;key x at 0;");
        e.not(few, "more than there are KEEPERS", y -> y.get(0, 0, 0), 7);
        e.fine(x, "by one that is no PLACE", x.get(0, 3, -1), 0);
        e.terms("GET of a KEY by a KEEPER that is UP");
        e.not(() -> Edge.fallen(4), "by one that is not UP", y -> y.get(0, 4, -1), 7);
        e.not(() -> Edge.fallen(0), "by a PLACE that is not UP", y -> y.get(0, 0, -1), 7);
    }

    private static void getTold(Edge e) {
        e.terms("What they have is JOINED, told, each of those asked has that then;");
        TwinShelf x = Check.with(Edge.FIVE);
        for (int keeper = 0; keeper < 3; keeper++) {
            x.part(1 << keeper);
            x.put(0, keeper, 10 + keeper, -1);
        }
        x.part(0);
        e.fine(x, "get by e", x.get(0, 4, -1), 2);
        e.fine(x, "got(0)", x.got(0), 10);
        e.fine(x, "got(1)", x.got(1), 11);
        e.fine(x, "a and b have that", x.like(0, 1, 0), 1);
        e.fine(x, "twins(0, 0)", x.twins(0, 0), 2);
        e.fine(x, "SEEN, too", x.seen(0, 0, 1) + x.seen(1, 0, 0), 2);
        e.fine(x, "c was not asked", x.twins(2, 0), 1);
        e.fine(x, "e asked, and has it not", x.twins(4, 0) + x.seen(4, 0, 0), 0);
        // c, the last of its ROW, asks a and b, not itself
        e.fine(x, "get by c", x.get(0, 2, -1), 2);
        e.fine(x, "c has its own alone", x.twins(2, 0), 1);
        x.fall(1, true);
        e.fine(x, "get by c of a and c", x.get(0, 2, -1), 3);
        e.fine(x, "a has all", x.twins(0, 0), 3);
        e.fine(x, "c has all", x.twins(2, 0), 3);
        e.fine(x, "b has what it had", x.twins(1, 0), 2);
        // of a sum
        x = Check.with(Edge.FIVE);
        x.part(4);
        x.add(2, 2, 3);
        x.add(2, 3, 4);
        x.part(0);
        e.fine(x, "get of a sum by a", x.get(2, 0, -1), 7);
        e.fine(x, "c has both PARTS", x.partOf(2, 2, 3), 4);
        e.fine(x, "d has both PARTS", x.partOf(3, 2, 2), 3);
        e.fine(x, "e was not asked", x.partOf(4, 2, 2), 0);
    }

    private static void ticketsOfGet(Edge e) {
        e.terms("a TICKET, if one is told, is what is SEEN, at that KEY (of a sum it stays as it was).");
        TwinShelf x = Check.with(Edge.FIVE);
        x.put(0, 0, 1, -1);
        x.put(0, 0, 2, -1);
        e.fine(x, "get without one", x.get(0, 0, -1), 2);
        e.fine(x, "told(7)", x.told(7), 0);
        e.fine(x, "get of a sum", x.get(2, 0, 3), 0);
        e.fine(x, "told(7): it was not there, and is not", x.told(7), 0);
        e.fine(x, "get", x.get(0, 0, 3), 2);
        e.fine(x, "told(7)", x.told(7), 8);
        x.put(0, 0, 3, -1);
        e.fine(x, "get of a sum", x.get(2, 0, 3), 0);
        e.fine(x, "its KEY stays", x.ticket(3, -1), 0);
        e.fine(x, "its SEEN stays", x.ticket(3, 0), 2);
        e.fine(x, "get of another KEY", x.get(1, 0, 3), 0);
        e.fine(x, "its KEY", x.ticket(3, -1), 1);
        e.fine(x, "its SEEN, less than it was", x.ticket(3, 0), 0);
    }

    private static void fallAndWipe(Edge e) {
        e.terms("FALL, RISE: a KEEPER is not UP, or is again; what it has stays. WIPE: it has nothing any more, no HINTS either.");
        TwinShelf x = Edge.rich();
        x.fall(2, false);
        for (int keeper = 0; keeper < 5; keeper++) {
            x.fall(keeper, true);
        }
        for (int keeper = 0; keeper < 5; keeper++) {
            x.fall(keeper, keeper == 2);
        }
        e.same("all fell and rose", Probe.quiet(x), Probe.quiet(Edge.rich()));
        for (int keeper = 0; keeper < 5; keeper++) {
            x = Edge.rich();
            x.wipe(keeper);
            for (int key = 0; key < 3; key++) {
                e.fine(x, "twins", x.twins(keeper, key), 0);
                for (int of = 0; of < 5; of++) {
                    e.fine(x, "seen", x.seen(keeper, key, of), 0);
                }
            }
            for (int of = 0; of < 5; of++) {
                e.fine(x, "partOf", x.partOf(keeper, 2, of), 0);
            }
            e.fine(x, "hints", x.hints(keeper), 0);
            e.fine(x, "it is UP as it was", x.told(5), 1 | 2 | 8 | 16);
            e.fine(x, "TICKETS stay", x.told(7), 7);
        }
        wipeOfHints(e);
        // HINTS for the wiped one stay with others
        x = Edge.rich();
        int ahead = x.hints(0) + x.hints(1) + x.hints(3) + x.hints(4);
        x.wipe(2);
        e.fine(x, "hints of the others", x.hints(0) + x.hints(1) + x.hints(3) + x.hints(4), ahead);
    }

    /** f is all there is to WATCH six KEYS of five PLACES each; it has a HINT for each PLACE at each KEY. */
    private static TwinShelf sixKeys() {
        TwinShelf x = Check.with("places 5 reads 1 writes 1;keeper a at 0;keeper b at 1;keeper c at 2;keeper d at 3;"
            + "keeper e at 4;keeper f at 5;key u at 0;key v at 0;key w at 0;key x at 0;key y at 0;key z at 0;");
        for (int key = 0; key < 6; key++) {
            for (int place = 0; place < 5; place++) {
                x.fall(place, true);
                x.put(key, (place + 1) % 5, 10 * key + place, -1);
                x.fall(place, false);
            }
        }
        return x;
    }

    private static void wipeOfHints(Edge e) {
        for (int keeper = 0; keeper < 6; keeper++) {
            TwinShelf x = sixKeys();
            e.fine(x, "hints(5)", x.hints(5), 30);
            x.wipe(keeper);
            for (int other = 0; other < 5; other++) {
                for (int key = 0; key < 6; key++) {
                    e.due("KEEPER " + other + " has something", x.twins(other, key) > 0, other != keeper);
                }
            }
            e.fine(x, "hints(5)", x.hints(5), keeper == 5 ? 0 : 30);
            e.fine(x, "hand()", x.hand(), keeper == 5 ? 0 : 30);
        }
        TwinShelf x = sixKeys();
        for (int keeper = 0; keeper < 5; keeper++) {
            x.wipe(keeper);
        }
        e.fine(x, "hand() to wiped ones", x.hand(), 30);
        for (int keeper = 0; keeper < 5; keeper++) {
            for (int key = 0; key < 6; key++) {
                e.fine(x, "what the HINT for " + keeper + " at " + key + " had", x.holders(key, 10 * key + keeper) >> keeper & 1, 1);
            }
        }
        newHints(e, "WIPE", y -> y.wipe(5));
        newHints(e, "HAND", TwinShelf::hand);
    }

    /** What a HINT was is gone: of each KEY the next HINT has just what is given. */
    private static void newHints(Edge e, String what, Edge.Call gone) {
        for (int key = 0; key < 6; key++) {
            for (int place = 0; place < 5; place++) {
                TwinShelf x = sixKeys();
                gone.on(x);
                for (int keeper = 0; keeper < 5; keeper++) {
                    x.wipe(keeper);
                }
                int giver = (place + 2) % 5;
                x.fall(place, true);
                x.put(key, giver, 999, -1);
                String hint = "the HINT for " + place + " at " + key + " behind " + what;
                e.fine(x, hint + ": the old values", x.holders(key, 10 * key + place), 0);
                e.fine(x, hint + ": the new value", x.holders(key, 999), 63 & ~(1 << place));
                e.fine(x, hint + ": hints(5)", x.hints(5), 1);
                x.fall(place, false);
                x.hand();
                e.fine(x, hint + ": what is handed on", x.twins(place, key), 1);
            }
        }
    }

    private static void hands(Edge e) {
        e.terms("HAND: each KEEPER that is UP, by numbers, gives its HINTS (by the KEEPERS they are for, of one by KEYS) to those"
            + " that it REACHES, who JOIN them; they are gone then.");
        TwinShelf x = Edge.fallen(1, 2);
        x.put(0, 0, 1, -1);
        e.fine(x, "to none", x.hand(), 0);
        hints(e, x, 0, 0, 0, 1, 1);
        x.fall(1, false);
        x.fall(2, false);
        x.part(8);
        e.fine(x, "d is PARTED", x.hand(), 1);
        hints(e, x, 0, 0, 0, 1, 0);
        e.fine(x, "c has it", x.twins(2, 0), 1);
        e.fine(x, "b has not", x.twins(1, 0), 0);
        x.part(0);
        x.fall(3, true);
        e.fine(x, "d is not UP", x.hand(), 0);
        hints(e, x, 0, 0, 0, 1, 0);
        x.fall(3, false);
        e.fine(x, "d is UP", x.hand(), 1);
        hints(e, x, 0, 0, 0, 0, 0);
        e.fine(x, "b has it", x.twins(1, 0), 1);
        e.fine(x, "they are gone", x.hand(), 0);
    }

    private static void nights(Edge e) {
        e.terms("NIGHT of two KEEPERS that REACH one another: at each KEY of which both are PLACES both have the JOIN of what"
            + " they had.");
        TwinShelf x = Check.with(Edge.FIVE);
        x.part(4);
        x.put(0, 2, 1, -1);
        x.add(2, 2, 5);
        x.put(1, 3, 2, -1);
        x.add(2, 3, 7);
        x.part(0);
        // c and e have s alone in common; c and d, too
        e.fine(x, "night(2, 4)", x.night(2, 4), 1);
        e.fine(x, "e's part of c", x.partOf(4, 2, 2), 5);
        e.fine(x, "c's part of d", x.partOf(2, 2, 3), 7);
        e.fine(x, "e has nothing at x", x.twins(4, 0), 0);
        e.fine(x, "c has nothing at y", x.twins(2, 1), 0);
        e.fine(x, "night(3, 2): s alone", x.night(3, 2), 1);
        e.fine(x, "night(3, 2) again", x.night(3, 2), 0);
        e.fine(x, "night(1, 4): nothing in common", x.night(1, 4), 0);
        e.not(Edge::rich, "with one that is not UP", y -> y.night(0, 2), 7);
        e.not(Edge::rich, "with one that is PARTED", y -> y.night(0, 4), 7);
    }

    private static void buries(Edge e) {
        e.terms("BURY: at a KEY at which all its PLACES are UP and have the same, TWINS that are GRAVES go everywhere in PLACES"
            + " (SEEN stays).");
        TwinShelf x = Check.with(Edge.FIVE);
        e.fine(x, "of nothing", x.bury(0), 0);
        x.put(0, 0, 999, -1);
        e.fine(x, "of no GRAVES", x.bury(0), 0);
        x.strike(0, 0, -1);
        x.strike(0, 1, -1);
        x.put(0, 0, 0, -1);
        x.strike(1, 0, -1);
        e.fine(x, "of two GRAVES", x.bury(0), 2);
        for (int keeper = 0; keeper < 3; keeper++) {
            e.fine(x, "twins", x.twins(keeper, 0), 2);
            e.fine(x, "SEEN of a stays", x.seen(keeper, 0, 0), 3);
            e.fine(x, "SEEN of b stays", x.seen(keeper, 0, 1), 1);
        }
        e.fine(x, "another KEY stays", x.twins(0, 1), 1);
        e.fine(x, "holders(0, 1000)", x.holders(0, 1000), 0);
        // a HINT keeps its GRAVE
        x = Edge.fallen(1);
        x.strike(0, 0, -1);
        x.fall(1, false);
        x.night(0, 1);
        e.fine(x, "of one, with a HINT", x.bury(0), 1);
        e.fine(x, "holders(0, 1000): the HINT's", x.holders(0, 1000), 8);
        x = Check.with("places 1 reads 1 writes 1;keeper a at 0;keeper b at 1;key x at 1;key y at 0;");
        x.strike(0, 1, -1);
        x.strike(1, 0, -1);
        e.fine(x, "of one PLACE alone", x.bury(0), 1);
        e.fine(x, "of one PLACE alone at another KEY", x.bury(1), 1);
        x = Check.with("places 6 reads 1 writes 1;keeper a at 0;keeper b at 1;keeper c at 2;keeper d at 3;keeper e at 4;"
            + "keeper f at 5;key u at 0;key v at 0;key w at 0;key x at 0;key y at 0;key z at 0;");
        for (int i = 0; i < 180; i++) {
            x.strike(5, i % 6, -1);
        }
        e.fine(x, "of thirty of each of six, at the last KEY", x.bury(5), 180);
        e.fine(x, "SEEN stays", x.seen(0, 5, 5), 30);
        // all thirty
        x = Check.with("keeper a at 1;key x at 1;");
        for (int i = 0; i < 30; i++) {
            x.strike(0, 0, -1);
        }
        e.fine(x, "of thirty", x.bury(0), 30);
        e.fine(x, "seen(0, 0, 0)", x.seen(0, 0, 0), 30);
        e.fine(x, "twins(0, 0)", x.twins(0, 0), 0);
    }

    private static void putRefusals(Edge e) {
        e.says(17, "PUT with a TICKET (NONE: without): TOLD (1: the value, too; 6: no such TICKET there; 7: a sum, a TICKET of"
            + " another KEY, the KEEPER is no PLACE, or not UP, gave 30 there).");
        for (int odd : Edge.ODD_KEYS) {
            e.not(Edge::rich, "put(" + odd + ", 0, 1, -1)", x -> x.put(odd, 0, 1, -1), 1);
        }
        for (int odd : Edge.ODD_KEEPERS) {
            e.not(Edge::rich, "put(0, " + odd + ", 1, -1)", x -> x.put(0, odd, 1, -1), 1);
        }
        e.not(Edge::rich, "no such TICKET there", x -> x.put(0, 0, 1, 3), 6);
        e.not(Edge::rich, "a sum", x -> x.put(2, 3, 1, -1), 7);
        e.not(Edge::rich, "a sum, with a TICKET", x -> x.put(2, 3, 1, 1), 7);
        e.not(Edge::rich, "a TICKET of another KEY", x -> x.put(0, 0, 1, 2), 7);
        e.not(Edge::rich, "a TICKET of another KEY, the other way", x -> x.put(1, 3, 1, 1), 7);
        e.not(Edge::rich, "no PLACE", x -> x.put(0, 3, 1, 1), 7);
        e.not(Edge::rich, "not UP", x -> x.put(0, 2, 1, 1), 7);
        e.not(Edge::rich, "1 ahead of 6", x -> x.put(0, 0, 1000, 3), 1);
        e.not(Edge::rich, "1 ahead of 7", x -> x.put(2, 3, -1, -1), 1);
        e.not(Edge::rich, "6 ahead of 7, a sum", x -> x.put(2, 3, 1, 3), 6);
        e.not(Edge::rich, "6 ahead of 7, no PLACE", x -> x.put(0, 3, 1, 3), 6);
        e.not(Edge::rich, "6 ahead of 7, not UP", x -> x.put(0, 2, 1, 3), 6);
        e.not(DoEdges::thirtyGiven, "6 ahead of 7, gave 30", x -> x.put(0, 1, 1, 3), 6);
        e.not(DoEdges::thirtyGiven, "gave 30", x -> x.put(0, 1, 1, -1), 7);
    }

    private static void strikeRefusals(Edge e) {
        e.says(18, "STRIKE: TOLD (likewise).");
        for (int odd : Edge.ODD_KEYS) {
            e.not(Edge::rich, "strike(" + odd + ", 0, -1)", x -> x.strike(odd, 0, -1), 1);
        }
        for (int odd : Edge.ODD_KEEPERS) {
            e.not(Edge::rich, "strike(0, " + odd + ", -1)", x -> x.strike(0, odd, -1), 1);
        }
        e.not(Edge::rich, "no such TICKET there", x -> x.strike(0, 0, 3), 6);
        e.not(Edge::rich, "a sum", x -> x.strike(2, 3, -1), 7);
        e.not(Edge::rich, "a TICKET of another KEY", x -> x.strike(0, 0, 2), 7);
        e.not(Edge::rich, "no PLACE", x -> x.strike(0, 3, 1), 7);
        e.not(Edge::rich, "not UP", x -> x.strike(0, 2, 1), 7);
        e.not(DoEdges::thirtyGiven, "gave 30", x -> x.strike(0, 1, 1), 7);
        e.not(Edge::rich, "1 ahead of 6", x -> x.strike(3, 0, 3), 1);
        e.not(Edge::rich, "6 ahead of 7", x -> x.strike(2, 3, 3), 6);
        TwinShelf x = Check.with(Edge.FIVE);
        e.fine(x, "strike of nothing", x.strike(0, 0, -1), 3);
        e.twin(x, 1, 0, 0, 1000, 0, 1);
        x.get(0, 0, 0);
        e.fine(x, "strike of a GRAVE", x.strike(0, 0, 0), 3);
        e.fine(x, "twins(0, 0)", x.twins(0, 0), 1);
    }

    private static void addRefusals(Edge e) {
        e.says(19, "ADD: TOLD (1; 7: no sum, no PLACE, not UP).");
        for (int odd : Edge.ODD_KEYS) {
            e.not(Edge::rich, "add(" + odd + ", 3, 1)", x -> x.add(odd, 3, 1), 1);
        }
        for (int odd : Edge.ODD_KEEPERS) {
            e.not(Edge::rich, "add(2, " + odd + ", 1)", x -> x.add(2, odd, 1), 1);
        }
        e.not(Edge::rich, "no sum", x -> x.add(0, 0, 1), 7);
        e.not(Edge::rich, "no PLACE", x -> x.add(2, 0, 1), 7);
        e.not(Edge::rich, "not UP", x -> x.add(2, 2, 1), 7);
        e.not(Edge::rich, "1 ahead of 7", x -> x.add(0, 0, 0), 1);
    }

    private static void getRefusals(Edge e) {
        e.says(20, "GET, a TICKET or none (NONE): how many TWINS are told; of a sum: it (1; 7).");
        for (int odd : Edge.ODD_KEYS) {
            e.not(Edge::rich, "get(" + odd + ", 0, 0)", x -> x.get(odd, 0, 0), 1);
        }
        for (int odd : Edge.ODD_KEEPERS) {
            e.not(Edge::rich, "get(0, " + odd + ", 0)", x -> x.get(0, odd, 0), 1);
        }
        for (int odd : Edge.ODD_TICKETS) {
            e.not(Edge::rich, "get(0, 0, " + odd + ")", x -> x.get(0, 0, odd), 1);
            e.not(Edge::rich, "get(2, 0, " + odd + ") of a sum", x -> x.get(2, 0, odd), 1);
        }
        e.not(Edge::rich, "not UP", x -> x.get(0, 2, 0), 7);
        e.not(Edge::rich, "too few", x -> x.get(0, 4, 0), 7);
        e.not(Edge::rich, "too few of a sum", x -> x.get(2, 4, 0), 7);
        e.not(Edge::rich, "1 ahead of 7", x -> x.get(0, 2, 4), 1);
        TwinShelf x = Check.with(Edge.FIVE);
        for (int ticket = -1; ticket < 4; ticket++) {
            e.fine(x, "get with TICKET " + ticket, x.get(0, 0, ticket), 0);
        }
        e.fine(x, "told(7)", x.told(7), 15);
        x.add(2, 2, 999);
        x.add(2, 3, 2);
        e.fine(x, "get of a sum", x.get(2, 0, -1), 1001);
    }

    private static void got(Edge e) {
        e.says(21, "The k-th value told by get() latest with STATUS 0 (6: none such, of a sum); a GRAVE is 1,000.");
        e.not(() -> Check.with(Edge.FIVE), "ahead of any get()", x -> x.got(0), 6);
        Edge.Made three = () -> {
            TwinShelf x = Edge.rich();
            Check.shelf(x, Edge.FIVE);
            x.put(0, 0, 0, -1);
            x.put(0, 0, 999, -1);
            x.strike(0, 0, -1);
            x.get(0, 0, -1);
            x.get(0, 9, -1);
            return x;
        };
        TwinShelf x = three.make();
        e.fine(x, "got(0)", x.got(0), 0);
        e.fine(x, "got(1)", x.got(1), 999);
        e.fine(x, "got(2), a GRAVE", x.got(2), 1000);
        for (int odd : new int[] {-1, 3, 4, Integer.MIN_VALUE, Integer.MAX_VALUE}) {
            e.not(three, "got(" + odd + ") of three", y -> y.got(odd), 6);
        }
        Edge.Made sum = () -> {
            TwinShelf y = three.make();
            y.add(2, 2, 3);
            y.get(2, 2, -1);
            return y;
        };
        e.not(sum, "got(0) of a sum", y -> y.got(0), 6);
        Edge.Made none = () -> {
            TwinShelf y = three.make();
            y.get(1, 2, -1);
            return y;
        };
        e.not(none, "got(0) of no TWINS", y -> y.got(0), 6);
        // thirty of each of six KEEPERS
        x = Check.with("places 6 reads 1 writes 1;keeper a at 0;keeper b at 1;keeper c at 2;keeper d at 3;keeper e at 4;"
            + "keeper f at 5;key x at 0;");
        Check.days(x, "loop 30;put x at a 1;put x at b 2;put x at c 3;put x at d 4;put x at e 5;put x at f 6;end;");
        x.live(0);
        e.fine(x, "get of 180", x.get(0, 0, -1), 180);
        e.fine(x, "got(0)", x.got(0), 1);
        e.fine(x, "got(179)", x.got(179), 6);
        e.due("got(180)", x.got(180), -1);
        e.due("status()", x.status(), 6);
    }

    private static void isDone(Edge e) {
        e.says(22, "1 if the latest put(), strike(), add() with STATUS 0 was DONE, else 0 (6: there was none).");
        e.not(TwinShelf::new, "ahead of any", TwinShelf::isDone, 6);
        Edge.Made refusedOnly = () -> {
            TwinShelf x = Check.with(Edge.FIVE);
            x.put(0, 4, 1, -1);
            x.strike(2, 2, -1);
            x.add(0, 0, 1);
            return x;
        };
        e.not(refusedOnly, "behind refusals alone", TwinShelf::isDone, 6);
        TwinShelf x = Check.with(Edge.FIVE);
        Check.days(x, "put x at a 1;");
        x.live(0);
        e.due("live() is none of these", x.isDone(), -1);
        x.put(0, 0, 1, -1);
        e.fine(x, "isDone()", x.isDone(), 1);
        x.part(1);
        x.put(0, 4, 1, -1);
        e.fine(x, "isDone() behind a refusal", x.isDone(), 1);
        x.put(0, 0, 1, -1);
        e.fine(x, "isDone()", x.isDone(), 0);
        x.add(2, 2, 1);
        e.fine(x, "isDone()", x.isDone(), 1);
    }

    private static void falls(Edge e) {
        e.says(23, "A KEEPER FALLS (false: RISES) (1).");
        for (int odd : Edge.ODD_KEEPERS) {
            e.not(Edge::rich, "fall(" + odd + ", true)", x -> x.fall(odd, true), 1);
            e.not(Edge::rich, "fall(" + odd + ", false)", x -> x.fall(odd, false), 1);
        }
        TwinShelf x = Check.with(Edge.FIVE);
        e.fine(x, "the first falls", x.fall(0, true));
        e.fine(x, "the last falls", x.fall(4, true));
        e.fine(x, "told(5)", x.told(5), 14);
        e.fine(x, "the last falls again", x.fall(4, true));
        e.fine(x, "told(5)", x.told(5), 14);
        e.fine(x, "the last rises", x.fall(4, false));
        e.fine(x, "the last rises again", x.fall(4, false));
        e.fine(x, "told(5)", x.told(5), 30);
    }

    private static void wipes(Edge e) {
        e.says(24, "WIPE (1).");
        for (int odd : Edge.ODD_KEEPERS) {
            e.not(Edge::rich, "wipe(" + odd + ")", x -> x.wipe(odd), 1);
        }
        TwinShelf x = Edge.rich();
        e.fine(x, "of one that is not UP", x.wipe(2));
        e.fine(x, "of the first", x.wipe(0));
        e.fine(x, "of the last", x.wipe(4));
        e.fine(x, "of the last again", x.wipe(4));
        e.fine(x, "b keeps what it has", x.twins(1, 0) > 0 ? 1 : 0, 1);
    }

    private static void partSets(Edge e) {
        e.says(25, "A set is PARTED from the others (0: HEALED) (1).");
        for (int odd : new int[] {-1, 32, 33, 63, 64, Integer.MIN_VALUE, Integer.MAX_VALUE}) {
            e.not(Edge::rich, "part(" + odd + ")", x -> x.part(odd), 1);
        }
        TwinShelf x = Edge.rich();
        e.fine(x, "part(31)", x.part(31));
        e.fine(x, "told(6)", x.told(6), 31);
        e.fine(x, "part(0)", x.part(0));
        e.fine(x, "told(6)", x.told(6), 0);
        e.fine(x, "reach(0, 4)", x.reach(0, 4), 1);
        x = Check.with("keeper a at 0;keeper b at 1;keeper c at 2;keeper d at 3;keeper e at 4;keeper f at 5;");
        e.fine(x, "part(63) of six", x.part(63));
        e.due("part(64) of six", x.part(64), false);
        e.due("status()", x.status(), 1);
        e.fine(x, "told(6)", x.told(6), 63);
    }

    private static void handTells(Edge e) {
        e.says(26, "HAND: how many HINTS were given.");
        e.fine(new TwinShelf(), "of no KEEPERS", new TwinShelf().hand(), 0);
        TwinShelf x = Edge.fallen(1, 2);
        x.put(0, 0, 1, -1);
        x.put(0, 0, 2, -1);
        x.add(2, 3, 1);
        // for b and c at x, for c at s
        hints(e, x, 1, 0, 0, 1, 1);
        x.fall(2, false);
        e.fine(x, "two of three", x.hand(), 2);
        x.fall(1, false);
        e.fine(x, "the third", x.hand(), 1);
        e.fine(x, "none are left", x.hand(), 0);
    }

    private static void nightRefusals(Edge e) {
        e.says(27, "NIGHT: at how many KEYS they were not LIKE (1: one and itself, too; 7).");
        for (int odd : Edge.ODD_KEEPERS) {
            e.not(Edge::rich, "night(" + odd + ", 0)", x -> x.night(odd, 0), 1);
            e.not(Edge::rich, "night(0, " + odd + ")", x -> x.night(0, odd), 1);
        }
        for (int i = 0; i < 5; i++) {
            int keeper = i;
            e.not(Edge::rich, "night(" + i + ", " + i + ")", x -> x.night(keeper, keeper), 1);
        }
        e.not(Edge::rich, "not UP", x -> x.night(2, 3), 7);
        e.not(Edge::rich, "PARTED", x -> x.night(3, 4), 7);
        e.not(Edge::rich, "1 ahead of 7", x -> x.night(2, 5), 1);
        TwinShelf x = Check.with("places 2 reads 1 writes 1;keeper a at 0;keeper b at 1;key u at 0;key v at 0;key w at 0;"
            + "key x at 0 sum;key y at 0 sum;key z at 0;");
        e.fine(x, "at none", x.night(0, 1), 0);
        x.part(1);
        for (int key : new int[] {0, 1, 2, 5}) {
            x.put(key, 0, 1, -1);
        }
        x.add(3, 0, 1);
        x.add(4, 1, 1);
        x.part(0);
        e.fine(x, "at all six", x.night(1, 0), 6);
        e.fine(x, "at none any more", x.night(0, 1), 0);
    }

    private static TwinShelf unlike() {
        TwinShelf x = Check.with(Edge.FIVE);
        x.strike(0, 0, -1);
        x.part(1);
        x.put(0, 0, 1, -1);
        x.part(0);
        return x;
    }

    private static TwinShelf oneDown() {
        TwinShelf x = Check.with(Edge.FIVE);
        x.strike(0, 0, -1);
        x.fall(2, true);
        return x;
    }

    private static void buryRefusals(Edge e) {
        e.says(28, "BURY: how many GRAVES one PLACE loses (1; 7: a sum, not ALIKE, not all UP).");
        for (int odd : Edge.ODD_KEYS) {
            e.not(Edge::rich, "bury(" + odd + ")", x -> x.bury(odd), 1);
        }
        e.not(() -> Check.with(Edge.FIVE), "a sum", x -> x.bury(2), 7);
        e.not(DoEdges::unlike, "not ALIKE", x -> x.bury(0), 7);
        e.not(DoEdges::oneDown, "not all UP", x -> x.bury(0), 7);
        TwinShelf x = oneDown();
        x.fall(2, false);
        x.fall(3, true);
        x.fall(4, true);
        x.part(1);
        e.fine(x, "all PLACES UP, no WATCHER, and one PARTED", x.bury(0), 1);
        e.fine(x, "once more", x.bury(0), 0);
        x = Check.with("key x at 1;");
        e.fine(x, "no PLACES", x.bury(0), 0);
    }
}
