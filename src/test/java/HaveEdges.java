/** Edges of who has what: part 3 of the terms as far as NIGHTS, promises 29 to 44. */
final class HaveEdges {
    private static final String SIX = "places 6 reads 1 writes 1;keeper a at 0;keeper b at 1;keeper c at 2;keeper d at 3;"
        + "keeper e at 4;keeper f at 5;";
    private static final String SIX_KEYS = "key u at 0;key v at 0;key w at 0;key x at 0;key y at 0;key z at 0;";

    private HaveEdges() {
    }

    static void run(Edge e) {
        twins(e);
        twin(e);
        seen(e);
        partOf(e);
        hints(e);
        tickets(e);
        likeInAll(e);
        like(e);
        alike(e);
        alikePlaces(e);
        differ(e);
        rootWeights(e);
        rootRest(e);
        root(e);
        fresh(e);
        late(e);
        lateOfSum(e);
        load(e);
        moved(e);
        movedRefusals(e);
        nights(e);
        nightsReach(e);
        safe(e);
        safeRefusals(e);
    }

    private static void twins(Edge e) {
        e.says(29, "How many TWINS a KEEPER has at a KEY (1).");
        TwinShelf x = Check.with(SIX + "key x at 0;key y at 0;key s at 0 sum;");
        e.fine(x, "none", x.twins(0, 0), 0);
        for (int i = 0; i < 180; i++) {
            x.put(0, i % 6, i, -1);
            if (i == 0 || i == 1 || i == 29 || i == 30 || i == 179) {
                e.fine(x, "behind " + (i + 1) + " puts", x.twins(5, 0), i + 1);
            }
        }
        e.fine(x, "at another KEY", x.twins(5, 1), 0);
        e.fine(x, "at a sum", x.twins(5, 2), 0);
        x.wipe(5);
        e.fine(x, "wiped", x.twins(5, 0), 0);
        e.fine(x, "another", x.twins(4, 0), 180);
        x.fall(4, true);
        e.fine(x, "of one that is not UP", x.twins(4, 0), 180);
        x = Edge.fallen(1);
        x.put(0, 0, 1, -1);
        e.fine(x, "a HINT is none", x.twins(3, 0), 0);
        for (int odd : Edge.ODD_KEEPERS) {
            e.not(Edge::rich, "twins(" + odd + ", 0)", y -> y.twins(odd, 0), 1);
        }
        for (int odd : Edge.ODD_KEYS) {
            e.not(Edge::rich, "twins(0, " + odd + ")", y -> y.twins(0, odd), 1);
        }
    }

    /** c has a TWIN of a, a GRAVE of b and two TWINS of itself at x. */
    private static TwinShelf four() {
        TwinShelf x = Check.with(Edge.FIVE);
        x.put(0, 2, 999, -1);
        x.put(0, 2, 0, -1);
        x.strike(0, 1, -1);
        x.put(0, 0, 7, -1);
        return x;
    }

    private static void twin(Edge e) {
        e.says(30, "Of the k-th of these, what 0: the value (a GRAVE 1,000), 1: the KEEPER of its DOT, 2: its count (1: what; 6).");
        TwinShelf x = four();
        e.twin(x, 2, 0, 0, 7, 0, 1);
        e.twin(x, 2, 0, 1, 1000, 1, 1);
        e.twin(x, 2, 0, 2, 999, 2, 1);
        e.twin(x, 2, 0, 3, 0, 2, 2);
        for (int odd : new int[] {-1, 4, 5, 30, 180, Integer.MIN_VALUE, Integer.MAX_VALUE}) {
            for (int what = 0; what < 3; what++) {
                int asked = what;
                e.not(HaveEdges::four, "twin(2, 0, " + odd + ", " + what + ")", y -> y.twin(2, 0, odd, asked), 6);
            }
            e.not(HaveEdges::four, "1 ahead of 6, twin(2, 0, " + odd + ", 3)", y -> y.twin(2, 0, odd, 3), 1);
        }
        for (int odd : new int[] {-1, 3, 4, Integer.MIN_VALUE, Integer.MAX_VALUE}) {
            e.not(HaveEdges::four, "twin(2, 0, 0, " + odd + ")", y -> y.twin(2, 0, 0, odd), 1);
        }
        for (int odd : Edge.ODD_KEEPERS) {
            e.not(HaveEdges::four, "twin(" + odd + ", 0, 0, 0)", y -> y.twin(odd, 0, 0, 0), 1);
        }
        for (int odd : Edge.ODD_KEYS) {
            e.not(HaveEdges::four, "twin(0, " + odd + ", 0, 0)", y -> y.twin(0, odd, 0, 0), 1);
        }
        e.not(HaveEdges::four, "of none", y -> y.twin(3, 0, 0, 0), 6);
        e.not(HaveEdges::four, "of a sum", y -> y.twin(2, 2, 0, 0), 6);
        // the first and the last of all that there can be
        x = Check.with(SIX + "key x at 0;");
        for (int i = 0; i < 180; i++) {
            x.put(0, i % 6, i, -1);
        }
        e.twin(x, 1, 0, 0, 0, 0, 1);
        e.twin(x, 1, 0, 29, 174, 0, 30);
        e.twin(x, 1, 0, 30, 1, 1, 1);
        e.twin(x, 1, 0, 179, 179, 5, 30);
        e.due("the 181st", x.twin(1, 0, 180, 0), -1);
        e.due("status()", x.status(), 6);
        // one beyond the last, where the next KEY has one of the first KEEPER
        x = Check.with("keeper a at 0;key x at 0;key y at 0;key z at 0;");
        for (int key = 0; key < 3; key++) {
            x.put(key, 0, 100 + key, -1);
        }
        for (int key = 0; key < 3; key++) {
            e.twin(x, 0, key, 0, 100 + key, 0, 1);
            e.due("the second", x.twin(0, key, 1, 0), -1);
            e.due("status()", x.status(), 6);
        }
    }

    private static void seen(Edge e) {
        e.says(31, "SEEN of a KEEPER, at a KEY, by a KEEPER (1).");
        TwinShelf x = Check.with(Edge.FIVE);
        e.fine(x, "nothing", x.seen(0, 0, 0), 0);
        for (int count = 1; count <= 30; count++) {
            x.put(0, 0, 1, -1);
            e.fine(x, "of " + count, x.seen(1, 0, 0), count);
        }
        e.fine(x, "of another", x.seen(1, 0, 1), 0);
        e.fine(x, "of the other way round", x.seen(0, 0, 1), 0);
        e.fine(x, "at another KEY", x.seen(1, 1, 0), 0);
        e.fine(x, "of a WATCHER", x.seen(3, 0, 0), 0);
        x.add(2, 3, 5);
        e.fine(x, "at a sum", x.seen(3, 2, 3), 0);
        for (int odd : Edge.ODD_KEEPERS) {
            e.not(Edge::rich, "seen(" + odd + ", 0, 0)", y -> y.seen(odd, 0, 0), 1);
            e.not(Edge::rich, "seen(0, 0, " + odd + ")", y -> y.seen(0, 0, odd), 1);
            e.not(Edge::rich, "seen(2, 2, " + odd + ") at a sum", y -> y.seen(2, 2, odd), 1);
        }
        for (int odd : Edge.ODD_KEYS) {
            e.not(Edge::rich, "seen(0, " + odd + ", 0)", y -> y.seen(0, odd, 0), 1);
        }
    }

    private static void partOf(Edge e) {
        e.says(32, "The PART of a KEEPER of a sum, as another one has it (1; 7: no sum).");
        TwinShelf x = Check.with(Edge.FIVE);
        e.fine(x, "nothing", x.partOf(2, 2, 2), 0);
        x.fall(4, true);
        x.add(2, 3, 5);
        e.fine(x, "d's part, as d has it", x.partOf(3, 2, 3), 5);
        e.fine(x, "d's part, as c has it", x.partOf(2, 2, 3), 5);
        e.fine(x, "c's part, as d has it", x.partOf(3, 2, 2), 0);
        e.fine(x, "d's part, as e has it", x.partOf(4, 2, 3), 0);
        e.fine(x, "d's part, as a has it, who has a HINT", x.partOf(0, 2, 3), 0);
        for (int odd : Edge.ODD_KEEPERS) {
            e.not(Edge::rich, "partOf(" + odd + ", 2, 2)", y -> y.partOf(odd, 2, 2), 1);
            e.not(Edge::rich, "partOf(2, 2, " + odd + ")", y -> y.partOf(2, 2, odd), 1);
            e.not(Edge::rich, "1 ahead of 7, partOf(0, 0, " + odd + ")", y -> y.partOf(0, 0, odd), 1);
        }
        for (int odd : Edge.ODD_KEYS) {
            e.not(Edge::rich, "partOf(2, " + odd + ", 2)", y -> y.partOf(2, odd, 2), 1);
        }
        e.not(Edge::rich, "no sum", y -> y.partOf(0, 0, 0), 7);
        e.not(Edge::rich, "no sum either", y -> y.partOf(0, 1, 0), 7);
    }

    private static void hints(Edge e) {
        e.says(33, "How many HINTS a KEEPER has (1).");
        for (int odd : Edge.ODD_KEEPERS) {
            e.not(Edge::rich, "hints(" + odd + ")", y -> y.hints(odd), 1);
        }
        // f is all there is to WATCH six KEYS of five PLACES each
        TwinShelf x = Check.with(SIX.replace("places 6", "places 5") + SIX_KEYS);
        int due = 0;
        for (int key = 0; key < 6; key++) {
            for (int place = 0; place < 5; place++) {
                x.fall(place, true);
                x.put(key, (place + 1) % 5, 1, -1);
                x.fall(place, false);
                due++;
                e.fine(x, "one more", x.hints(5), due);
            }
        }
        e.fine(x, "hints(0)", x.hints(0), 0);
        e.fine(x, "hand()", x.hand(), 30);
        e.fine(x, "behind hand()", x.hints(5), 0);
    }

    private static void tickets(Edge e) {
        e.says(34, "Of a TICKET: SEEN of a KEEPER (1; 6: it is not there); its KEY, of NONE.");
        TwinShelf x = Check.with(Edge.FIVE);
        x.put(1, 3, 1, -1);
        x.put(1, 3, 1, -1);
        x.put(1, 4, 1, -1);
        for (int ticket = 0; ticket < 4; ticket++) {
            x.get(1, 2, ticket);
            e.fine(x, "SEEN of d", x.ticket(ticket, 3), 2);
            e.fine(x, "SEEN of e", x.ticket(ticket, 4), 1);
            e.fine(x, "SEEN of a", x.ticket(ticket, 0), 0);
            e.fine(x, "its KEY", x.ticket(ticket, -1), 1);
        }
        for (int odd : Edge.ODD_TICKETS) {
            e.not(Edge::rich, "ticket(" + odd + ", 0)", y -> y.ticket(odd, 0), 1);
            e.not(Edge::rich, "ticket(" + odd + ", NONE)", y -> y.ticket(odd, -1), 1);
        }
        e.not(Edge::rich, "ticket(-1, 0): NONE is no TICKET here", y -> y.ticket(-1, 0), 1);
        for (int odd : new int[] {-2, 5, 6, Integer.MIN_VALUE, Integer.MAX_VALUE}) {
            e.not(Edge::rich, "ticket(1, " + odd + ")", y -> y.ticket(1, odd), 1);
            e.not(Edge::rich, "1 ahead of 6, ticket(3, " + odd + ")", y -> y.ticket(3, odd), 1);
        }
        e.not(Edge::rich, "not there", y -> y.ticket(3, 0), 6);
        e.not(Edge::rich, "not there, its KEY", y -> y.ticket(3, -1), 6);
    }

    private static void likeInAll(Edge e) {
        e.terms("LIKE: two KEEPERS have the same at a KEY (TWINS, SEEN, PARTS).");
        // unlike in TWINS alone: b is handed a GRAVE that was buried meanwhile
        TwinShelf x = Edge.fallen(1);
        x.strike(0, 0, -1);
        x.fall(1, false);
        x.night(0, 1);
        x.bury(0);
        e.fine(x, "buried", x.like(0, 1, 0), 1);
        x.wipe(1);
        e.fine(x, "unlike in SEEN alone", x.like(0, 1, 0), 0);
        x.hand();
        e.fine(x, "SEEN of a", x.seen(0, 0, 0), 1);
        e.fine(x, "SEEN of b", x.seen(1, 0, 0), 1);
        e.fine(x, "unlike in TWINS alone", x.like(0, 1, 0), 0);
        e.fine(x, "at another KEY", x.like(0, 1, 1), 1);
        x.part(4);
        x.add(2, 2, 1);
        e.fine(x, "unlike in PARTS", x.like(2, 3, 2), 0);
        x.add(2, 3, 1);
        e.fine(x, "unlike in whose PARTS, of one sum", x.like(2, 3, 2), 0);
        x.part(0);
        x.night(2, 3);
        e.fine(x, "like in PARTS", x.like(2, 3, 2), 1);
        // the same value with another DOT
        x = Check.with("places 2 reads 1 writes 1;keeper a at 0;keeper b at 1;key x at 0;");
        x.part(1);
        x.put(0, 0, 5, -1);
        x.put(0, 1, 5, -1);
        e.fine(x, "the same value, unlike DOTS", x.like(0, 1, 0), 0);
    }

    private static void like(Edge e) {
        e.says(35, "1 if two KEEPERS are LIKE at a KEY, else 0 (1).");
        TwinShelf x = Edge.fallen(2);
        x.put(0, 0, 5, -1);
        int[] has = {1, 1, 0, 0, 0};
        for (int a = 0; a < 5; a++) {
            for (int b = 0; b < 5; b++) {
                e.fine(x, "like(" + a + ", " + b + ", 0)", x.like(a, b, 0), has[a] == has[b] ? 1 : 0);
                e.fine(x, "like(" + a + ", " + b + ", 1)", x.like(a, b, 1), 1);
            }
        }
        for (int odd : Edge.ODD_KEEPERS) {
            e.not(Edge::rich, "like(" + odd + ", 0, 0)", y -> y.like(odd, 0, 0), 1);
            e.not(Edge::rich, "like(0, " + odd + ", 0)", y -> y.like(0, odd, 0), 1);
            e.not(Edge::rich, "like(" + odd + ", " + odd + ", 0)", y -> y.like(odd, odd, 0), 1);
        }
        for (int odd : Edge.ODD_KEYS) {
            e.not(Edge::rich, "like(0, 1, " + odd + ")", y -> y.like(0, 1, odd), 1);
        }
    }

    private static void alike(Edge e) {
        e.says(36, "The set of KEYS (1 for KEY 0 ..) that are ALIKE.");
        e.fine(new TwinShelf(), "of no KEYS", new TwinShelf().alike(), 0);
        TwinShelf x = Check.with(SIX + SIX_KEYS);
        e.fine(x, "all six, with nothing", x.alike(), 63);
        x.part(1);
        int due = 63;
        for (int key = 0; key < 6; key++) {
            x.put(key, 0, 1, -1);
            due &= ~(1 << key);
            e.fine(x, "without KEY " + key, x.alike(), due);
        }
        x.part(0);
        for (int other = 1; other < 5; other++) {
            x.night(0, other);
            e.fine(x, "one has not yet", x.alike(), 0);
        }
        x.night(4, 5);
        e.fine(x, "all six have the same", x.alike(), 63);
    }

    private static void alikePlaces(Edge e) {
        e.terms("ALIKE is a KEY if all its PLACES are LIKE one another.");
        // the first, the one between and the last PLACE of x, each once unlike the two others
        for (int place = 0; place < 3; place++) {
            TwinShelf x = Check.with(Edge.FIVE);
            x.put(0, 0, 1, -1);
            e.fine(x, "WATCHERS need not have it", x.alike(), 7);
            x.wipe(place);
            e.fine(x, "PLACE " + place + " has nothing", x.alike(), 6);
            x.fall(place, true);
            e.fine(x, "one that is not UP counts", x.alike(), 6);
        }
        TwinShelf x = Check.with("places 1 reads 1 writes 1;keeper a at 0;keeper b at 1;key x at 0;");
        x.put(0, 0, 1, -1);
        e.fine(x, "of one PLACE", x.alike(), 1);
        x = Check.with("key x at 0;key s at 0 sum;");
        e.fine(x, "of no PLACES", x.alike(), 3);
    }

    private static void differ(Edge e) {
        e.says(37, "The set of KEYS of which both are PLACES at which two KEEPERS are not LIKE (1).");
        TwinShelf x = Check.with(SIX + SIX_KEYS);
        x.part(1);
        int due = 0;
        for (int key = 0; key < 6; key++) {
            e.fine(x, "differ(0, 5)", x.differ(0, 5), due);
            x.put(key, 0, 1, -1);
            due |= 1 << key;
        }
        e.fine(x, "differ(0, 5) at all six", x.differ(0, 5), 63);
        e.fine(x, "differ(5, 0)", x.differ(5, 0), 63);
        e.fine(x, "differ(1, 5)", x.differ(1, 5), 0);
        e.fine(x, "one and itself", x.differ(0, 0), 0);
        // a and d: y; a and c: x; c and e: s; b and d: none
        x = Check.with(Edge.FIVE);
        x.part(1 | 4);
        x.put(0, 0, 1, -1);
        x.put(1, 0, 1, -1);
        x.add(2, 2, 1);
        e.fine(x, "differ(0, 1)", x.differ(0, 1), 1);
        e.fine(x, "differ(0, 2)", x.differ(0, 2), 0);
        e.fine(x, "differ(0, 3)", x.differ(0, 3), 2);
        e.fine(x, "differ(0, 4)", x.differ(0, 4), 2);
        e.fine(x, "differ(2, 4)", x.differ(2, 4), 4);
        e.fine(x, "differ(1, 3), unlike at x where d is no PLACE", x.differ(2, 3), 4);
        e.fine(x, "differ(1, 4)", x.differ(1, 4), 0);
        for (int odd : Edge.ODD_KEEPERS) {
            e.not(Edge::rich, "differ(" + odd + ", 0)", y -> y.differ(odd, 0), 1);
            e.not(Edge::rich, "differ(0, " + odd + ")", y -> y.differ(0, odd), 1);
            e.not(Edge::rich, "differ(" + odd + ", " + odd + ")", y -> y.differ(odd, odd), 1);
        }
    }

    private static void rootWeights(Edge e) {
        e.terms("ROOT of a KEEPER: 0 at first; KEY by KEY, of which it is a PLACE: 31 times what it was, and once all of these"
            + " together: of each TWIN 7 and its value (a GRAVE: 1,007), of each KEEPER's SEEN 3 times it, each PART");
        TwinShelf x = Check.with("places 2 reads 1 writes 1;keeper a at 0;keeper b at 1;keeper c at 2;key s at 0 sum;key x at 0;"
            + "key y at 1;key z at 0;");
        e.fine(x, "nothing", x.root(0), 0);
        x.put(1, 0, 0, -1);
        int ofX = 7 + 3;
        // a: s x z; b: s x y z; c: y
        e.fine(x, "of a value 0, a", x.root(0), ofX * 31);
        e.fine(x, "of a value 0, b", x.root(1), ofX * 31 * 31);
        e.fine(x, "of a value 0, c", x.root(2), 0);
        x.put(1, 0, 999, -1);
        ofX = 7 + 7 + 999 + 3 * 2;
        e.fine(x, "of a value 999", x.root(0), ofX * 31);
        x.strike(1, 1, -1);
        ofX = 7 + 7 + 999 + 1007 + 3 * 2 + 3;
        e.fine(x, "of a GRAVE and of two KEEPERS' SEEN", x.root(0), ofX * 31);
        x.bury(1);
        ofX = 7 + 7 + 999 + 3 * 2 + 3;
        e.fine(x, "of a SEEN that stays", x.root(0), ofX * 31);
        x.add(0, 0, 5);
        x.add(0, 1, 6);
        e.fine(x, "of PARTS of two, a", x.root(0), (11 * 31 + ofX) * 31);
        x.put(3, 0, 4, -1);
        e.fine(x, "of the last KEY, a", x.root(0), (11 * 31 + ofX) * 31 + 7 + 4 + 3);
        x.put(2, 2, 3, -1);
        e.fine(x, "of a KEY that is c's, too, a", x.root(0), (11 * 31 + ofX) * 31 + 7 + 4 + 3);
        e.fine(x, "of the one KEY of c", x.root(2), 7 + 3 + 3);
        e.fine(x, "of all four, b", x.root(1), (((11 * 31 + ofX) * 31 + 13) * 31 + 14) % 1000003);
        x.fall(1, true);
        x.put(3, 0, 4, -1);
        e.fine(x, "HINTS are nothing", x.root(2), 13);
        // of a TWIN that is gone its SEEN alone is left
        x = Check.with("keeper a at 0;key x at 0;");
        x.put(0, 0, 50, -1);
        x.get(0, 0, 0);
        x.put(0, 0, 60, 0);
        e.fine(x, "of the second alone", x.root(0), 7 + 60 + 3 * 2);
    }

    private static void rootRest(Edge e) {
        e.terms("then what is left of it by 1,000,003.");
        TwinShelf x = Check.with("keeper a at 1;key s at 1 sum;");
        Check.days(x, "loop 99;loop 99;add s at a 999;end;end;");
        for (int i = 0; i < 3; i++) {
            x.live(0);
        }
        for (int i = 3 * 296; i < 1001; i++) {
            x.add(0, 0, 999);
        }
        x.add(0, 0, 3);
        e.fine(x, "one less", x.root(0), 1000002);
        x.add(0, 0, 1);
        e.fine(x, "just so", x.root(0), 0);
        x.add(0, 0, 1);
        e.fine(x, "one more", x.root(0), 1);
        // far more than an int holds, were it not cut KEY by KEY
        x = Check.with("places 6 reads 1 writes 1;keeper a at 0;keeper b at 1;keeper c at 2;keeper d at 3;keeper e at 4;"
            + "keeper f at 5;" + SIX_KEYS);
        Check.days(x, "loop 30;put u at a 999;put v at a 999;put w at a 999;put x at a 999;put y at a 999;put z at a 999;end;");
        x.live(0);
        long due = 0;
        for (int key = 0; key < 6; key++) {
            due = (due * 31 + 30 * 1006 + 3 * 30) % 1000003;
        }
        e.fine(x, "six KEYS of thirty TWINS", x.root(0), due);
    }

    private static void root(Edge e) {
        e.says(38, "ROOT (1).");
        for (int odd : Edge.ODD_KEEPERS) {
            e.not(Edge::rich, "root(" + odd + ")", y -> y.root(odd), 1);
        }
        TwinShelf x = four();
        e.fine(x, "root(0)", x.root(0), (7 + 7 + 1007 + 1006 + 7 + 3 + 3 + 6) * 31);
        e.fine(x, "root(4)", x.root(4), 0);
    }

    private static void fresh(Edge e) {
        e.terms("ALL of a KEY: the JOIN of what all KEEPERS have there (no HINTS). FRESH: the set of its PLACES that have just"
            + " that.");
        e.says(39, "FRESH: a set (1).");
        TwinShelf x = Check.with(Edge.FIVE);
        e.fine(x, "of nothing: all PLACES of x", x.fresh(0), 7);
        e.fine(x, "of nothing: all PLACES of y", x.fresh(1), 1 | 8 | 16);
        x.fall(1, true);
        x.put(0, 0, 1, -1);
        e.fine(x, "b has it not", x.fresh(0), 5);
        x.fall(0, true);
        x.fall(2, true);
        e.fine(x, "those that are not UP count", x.fresh(0), 5);
        x.wipe(0);
        x.wipe(2);
        e.fine(x, "HINTS are not of ALL", x.fresh(0), 7);
        x = Check.with(Edge.FIVE);
        x.part(1);
        x.put(0, 0, 1, -1);
        e.fine(x, "one alone", x.fresh(0), 1);
        x.put(0, 1, 2, -1);
        e.fine(x, "nobody", x.fresh(0), 0);
        x.part(0);
        x.night(0, 2);
        e.fine(x, "two", x.fresh(0), 5);
        x.night(1, 2);
        e.fine(x, "all three", x.fresh(0), 7);
        x.add(2, 2, 1);
        x.wipe(3);
        e.fine(x, "of a sum", x.fresh(2), 4 | 16);
        for (int odd : Edge.ODD_KEYS) {
            e.not(Edge::rich, "fresh(" + odd + ")", y -> y.fresh(odd), 1);
        }
        x = Check.with("key x at 0;");
        e.fine(x, "of no PLACES", x.fresh(0), 0);
        x = Check.with(SIX + "key x at 0;");
        x.put(0, 5, 1, -1);
        e.fine(x, "of six", x.fresh(0), 63);
    }

    private static void late(Edge e) {
        e.terms("LATE of a KEEPER at a KEY: by how much its SEEN is less than that of ALL, of each KEEPER, together");
        e.says(40, "LATE (1).");
        TwinShelf x = Check.with(Edge.FIVE);
        for (int keeper = 0; keeper < 5; keeper++) {
            e.fine(x, "of nothing", x.late(keeper, 0), 0);
        }
        x.put(0, 0, 1, -1);
        x.part(1);
        x.put(0, 0, 2, -1);
        e.fine(x, "a has all", x.late(0, 0), 0);
        e.fine(x, "b is one late", x.late(1, 0), 1);
        e.fine(x, "d, no PLACE, has none", x.late(3, 0), 2);
        x.put(0, 1, 3, -1);
        x.put(0, 2, 4, -1);
        e.fine(x, "a, of b and c together", x.late(0, 0), 2);
        e.fine(x, "b, of a alone", x.late(1, 0), 1);
        e.fine(x, "d, of all", x.late(3, 0), 4);
        e.fine(x, "at another KEY", x.late(3, 1), 0);
        x.wipe(0);
        e.fine(x, "what nobody has SEEN any more is no loss", x.late(1, 0), 0);
        e.fine(x, "wiped", x.late(0, 0), 3);
        x.part(0);
        for (int i = 2; i < 30; i++) {
            x.put(0, 0, 5, -1);
        }
        x.wipe(2);
        e.fine(x, "of thirty, one and one", x.late(2, 0), 32);
        for (int odd : Edge.ODD_KEEPERS) {
            e.not(Edge::rich, "late(" + odd + ", 0)", y -> y.late(odd, 0), 1);
        }
        for (int odd : Edge.ODD_KEYS) {
            e.not(Edge::rich, "late(0, " + odd + ")", y -> y.late(0, odd), 1);
        }
    }

    private static void lateOfSum(Edge e) {
        e.terms("(of a sum: by how much its PARTS are).");
        TwinShelf x = Check.with(Edge.FIVE);
        e.fine(x, "of nothing", x.late(2, 2), 0);
        x.part(4);
        x.add(2, 2, 999);
        x.add(2, 3, 3);
        e.fine(x, "c, of d's PART", x.late(2, 2), 3);
        e.fine(x, "d, of c's PART", x.late(3, 2), 999);
        e.fine(x, "a, of both", x.late(0, 2), 1002);
        x.part(0);
        x.night(2, 4);
        e.fine(x, "e has all", x.late(4, 2), 0);
    }

    private static void load(Edge e) {
        e.terms("LOAD of a KEEPER: of how many KEYS it is a PLACE.");
        e.says(41, "LOAD (1).");
        TwinShelf x = Check.with(Edge.FIVE);
        int[] due = {2, 1, 2, 2, 2};
        for (int keeper = 0; keeper < 5; keeper++) {
            e.fine(x, "load(" + keeper + ")", x.load(keeper), due[keeper]);
        }
        x = Check.with(SIX.replace("places 6", "places 2") + SIX_KEYS);
        int[] all = {6, 6, 0, 0, 0, 0};
        for (int keeper = 0; keeper < 6; keeper++) {
            e.fine(x, "of six KEYS, load(" + keeper + ")", x.load(keeper), all[keeper]);
        }
        x.fall(0, true);
        e.fine(x, "one that is not UP", x.load(0), 6);
        x = Check.with(SIX);
        e.fine(x, "of no KEYS", x.load(5), 0);
        for (int odd : Edge.ODD_KEEPERS) {
            e.not(Edge::rich, "load(" + odd + ")", y -> y.load(odd), 1);
        }
    }

    private static void moved(Edge e) {
        e.terms("MOVED by a KEEPER more AT a number: of how many KEYS it would be a PLACE.");
        String keepers = "places 2 reads 1 writes 1;keeper a at 100;keeper b at 200;keeper c at 300;";
        TwinShelf x = Check.with(keepers + "key x at 150;");
        // x: b c a; a KEEPER more is a PLACE from x's own number on, as far as ahead of c
        int[] at = {0, 99, 101, 149, 150, 151, 199, 201, 299, 301, 999};
        int[] due = {0, 0, 0, 0, 1, 1, 1, 1, 1, 0, 0};
        for (int i = 0; i < at.length; i++) {
            e.fine(x, "moved(" + at[i] + ")", x.moved(at[i]), due[i]);
        }
        x = Check.with(keepers + "key x at 300;key y at 301;");
        // x: c a b; y: a b c; behind 999 from 0 on
        int[] round = {0, 99, 101, 199, 201, 299, 301, 302, 999};
        int[] dueRound = {2, 2, 1, 1, 0, 0, 2, 2, 2};
        for (int i = 0; i < round.length; i++) {
            e.fine(x, "round the ring, moved(" + round[i] + ")", x.moved(round[i]), dueRound[i]);
        }
        x = Check.with("places 4 reads 1 writes 1;keeper a at 100;keeper b at 200;keeper c at 300;" + SIX_KEYS);
        for (int number : new int[] {0, 1, 99, 301, 998, 999}) {
            e.fine(x, "where there are fewer KEEPERS than N, moved(" + number + ")", x.moved(number), 6);
        }
        x = Check.with("places 3 reads 1 writes 1;keeper a at 100;keeper b at 200;keeper c at 300;key x at 0;");
        e.fine(x, "just as many KEEPERS as N, ahead of the last", x.moved(299), 1);
        e.fine(x, "just as many KEEPERS as N, behind the last", x.moved(301), 0);
        x = Check.with("key x at 0;key y at 500 sum;");
        e.fine(x, "the first KEEPER of all", x.moved(7), 2);
        e.fine(x, "it is not there", x.told(3), 0);
        x = Check.with(SIX);
        e.due("of six", x.moved(7), -1);
    }

    private static TwinShelf sixKeepers() {
        TwinShelf x = Check.with(SIX + SIX_KEYS);
        x.put(0, 0, 5, -1);
        return x;
    }

    private static void movedRefusals(Edge e) {
        e.says(42, "MOVED, AT 0 to 999 (1; 4: there are 6 KEEPERS; 7: one stands there).");
        for (int odd : new int[] {-1, 1000, 1001, Integer.MIN_VALUE, Integer.MAX_VALUE}) {
            e.not(Edge::rich, "moved(" + odd + ")", x -> x.moved(odd), 1);
            e.not(HaveEdges::sixKeepers, "1 ahead of 4, moved(" + odd + ")", x -> x.moved(odd), 1);
        }
        TwinShelf x = Check.with("keeper a at 1;key x at 1;");
        e.fine(x, "moved(0)", x.moved(0), 1);
        e.fine(x, "moved(999)", x.moved(999), 1);
        e.not(HaveEdges::sixKeepers, "there are 6 KEEPERS", y -> y.moved(500), 4);
        e.not(HaveEdges::sixKeepers, "4 ahead of 7", y -> y.moved(0), 4);
        for (int at : new int[] {0, 100, 400}) {
            e.not(Edge::rich, "one stands at " + at, y -> y.moved(at), 7);
        }
        x = Check.with(Edge.FIVE);
        e.fine(x, "there are 5 KEEPERS, none stands there", x.moved(401), 1);
    }

    /** Six PLACES of x, the first so many of whom have it. */
    private static TwinShelf have(int many) {
        TwinShelf x = Check.with(SIX + "key x at 0;key s at 0 sum;");
        x.part((1 << many) - 1);
        x.put(0, 0, 5, -1);
        x.add(1, 0, 5);
        x.part(0);
        return x;
    }

    private static void nights(Edge e) {
        e.terms("NIGHTS of a KEY: the fewest NIGHTS (0 to 4), one behind the other, of KEEPERS that REACH one another, behind which"
            + " it is ALIKE.");
        e.says(43, "NIGHTS (1; 6: not in 4).");
        for (int many = 2; many <= 6; many++) {
            TwinShelf x = have(many);
            e.fine(x, "nights(0), " + (6 - many) + " behind", x.nights(0), 6 - many);
            e.fine(x, "nights(1), " + (6 - many) + " behind", x.nights(1), 6 - many);
        }
        e.not(() -> have(1), "five behind", x -> x.nights(0), 6);
        e.not(() -> have(1), "five behind, of a sum", x -> x.nights(1), 6);
        for (int odd : Edge.ODD_KEYS) {
            e.not(Edge::rich, "nights(" + odd + ")", x -> x.nights(odd), 1);
        }
        TwinShelf x = Check.with("key x at 0;");
        e.fine(x, "of no PLACES", x.nights(0), 0);
        x = Check.with("places 1 reads 1 writes 1;keeper a at 0;keeper b at 1;key x at 0;");
        x.put(0, 0, 1, -1);
        e.fine(x, "of one PLACE", x.nights(0), 0);
        // two unlike ones: one NIGHT is enough for both
        x = Check.with("places 2 reads 1 writes 1;keeper a at 0;keeper b at 1;key x at 0;");
        for (int keeper = 0; keeper < 2; keeper++) {
            x.part(1 << keeper);
            x.put(0, keeper, keeper, -1);
        }
        x.part(0);
        e.fine(x, "two unlike ones", x.nights(0), 1);
        // of y, whose ROW goes round the ring: its PLACES are d, e and a
        for (int keeper : new int[] {0, 3, 4}) {
            x = Check.with(Edge.FIVE);
            x.part(1 << keeper);
            x.put(1, keeper, 1, -1);
            x.part(0);
            e.fine(x, "two of y are behind " + keeper, x.nights(1), 2);
            x.night(keeper, (keeper + 1) % 5 == 1 ? 3 : (keeper + 1) % 5);
            e.fine(x, "one of y is behind " + keeper, x.nights(1), 1);
        }
        // three unlike ones: two meet, then the third meets both
        x = unlikeThree();
        e.fine(x, "three unlike ones", x.nights(0), 3);
        e.same("nights() changes nothing", Probe.quiet(x), Probe.quiet(unlikeThree()));
        x.night(0, 1);
        e.fine(x, "two like ones, and one", x.nights(0), 2);
        x.night(0, 2);
        e.fine(x, "one is behind", x.nights(0), 1);
        x.night(1, 2);
        e.fine(x, "none is", x.nights(0), 0);
    }

    private static TwinShelf unlikeThree() {
        TwinShelf x = Check.with(Edge.FIVE);
        for (int keeper = 0; keeper < 3; keeper++) {
            x.part(1 << keeper);
            x.put(0, keeper, keeper, -1);
        }
        x.part(0);
        return x;
    }

    private static void nightsReach(Edge e) {
        e.says(43, "(1; 6: not in 4)");
        e.terms("of KEEPERS that REACH one another");
        TwinShelf x = unlikeThree();
        x.fall(0, true);
        e.due("one is not UP", x.nights(0), -1);
        e.due("status()", x.status(), 6);
        x.fall(0, false);
        x.part(1);
        e.due("one is PARTED", x.nights(0), -1);
        x.part(1 | 2);
        e.due("another one is PARTED", x.nights(0), -1);
        x.part(7);
        e.fine(x, "all its PLACES are on one side", x.nights(0), 3);
        x.fall(3, true);
        x.fall(4, true);
        e.fine(x, "WATCHERS need not be UP", x.nights(0), 3);
        x = unlikeThree();
        x.night(0, 1);
        x.night(1, 2);
        x.fall(1, true);
        e.fine(x, "who has all already need not be UP", x.nights(0), 1);
        x.night(0, 2);
        x.fall(0, true);
        x.fall(2, true);
        e.fine(x, "none is UP, all have the same", x.nights(0), 0);
    }

    private static void safe(Edge e) {
        e.says(44, "How many KEEPERS must be WIPED that a value (as holders()) is LOST at a KEY (1; 6: nobody has it; 7: a sum).");
        TwinShelf x = Edge.fallen(1);
        x.put(0, 0, 5, -1);
        e.fine(x, "two PLACES and a WATCHER", x.safe(0, 5), 3);
        int holders = x.holders(0, 5);
        for (int left = 2; left >= 0; left--) {
            x.wipe(left == 2 ? 0 : left == 1 ? 2 : 3);
            if (left > 0) {
                e.fine(x, left + " left", x.safe(0, 5), left);
                e.fine(x, "not LOST yet", x.lost(holders), 1);
            }
        }
        e.due("LOST", x.safe(0, 5), -1);
        e.due("status()", x.status(), 6);
        x = Check.with(SIX + "key x at 0;");
        x.put(0, 0, 0, -1);
        x.put(0, 0, 999, -1);
        x.strike(0, 0, -1);
        for (int value : new int[] {0, 999, 1000}) {
            e.fine(x, "six have " + value, x.safe(0, value), 6);
        }
        x.put(0, 5, 999, -1);
        e.fine(x, "twice is once", x.safe(0, 999), 6);
    }

    private static void safeRefusals(Edge e) {
        e.says(44, "(1; 6: nobody has it; 7: a sum).");
        for (int odd : new int[] {-1, 1001, 1002, Integer.MIN_VALUE, Integer.MAX_VALUE}) {
            e.not(Edge::rich, "safe(0, " + odd + ")", x -> x.safe(0, odd), 1);
            e.not(Edge::rich, "1 ahead of 7, safe(2, " + odd + ")", x -> x.safe(2, odd), 1);
        }
        for (int odd : Edge.ODD_KEYS) {
            e.not(Edge::rich, "safe(" + odd + ", 5)", x -> x.safe(odd, 5), 1);
        }
        for (int value : new int[] {0, 999, 1000}) {
            e.not(() -> Check.with(Edge.FIVE), "nobody has " + value, x -> x.safe(0, value), 6);
            e.not(Edge::rich, "a sum, " + value, x -> x.safe(2, value), 7);
        }
        e.not(Edge::rich, "nobody has it there, though at another KEY", x -> x.safe(1, 7), 6);
    }
}
