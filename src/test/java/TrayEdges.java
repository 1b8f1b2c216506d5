/** Edges of a new object, STATUS, FRACTIONS and TRAYS: part 1 of the terms, promises 1 to 8. */
final class TrayEdges {
    private TrayEdges() {
    }

    static void run(Edge e) {
        calls512(e);
        newObject(e);
        statusStays(e);
        fractions(e);
        traysAtFirst(e);
        manyInTray(e);
        sorts(e);
        cuts(e);
        writes(e);
        reads(e);
        pours(e);
        poursOntoItself(e);
        pourRefusals(e);
        pourOrder(e);
    }

    private static void calls512(Edge e) {
        e.terms("An object is used for at most 512 calls after it has been made; what later calls answer is free.");
        TwinShelf x = new TwinShelf();
        // two feeds and a shelf, 508 adds: the 512th call is answered as any other
        Check.shelf(x, "keeper a at 1;key s at 1 sum;");
        for (int i = 0; i < 508; i++) {
            x.add(0, 0, 999);
        }
        e.due("the 512th call", x.get(0, 0, -1), 508 * 999);
    }

    private static void newObject(Edge e) {
        e.says(1, "A SHELF of no KEEPERS, KEYS, 3 PLACES; no TICKETS, DAYS, MARKS; TRAYS are MISSING; an empty tape;"
            + " the FRACTION 0 by 1; STATUS 0.");
        e.due("status()", new TwinShelf().status(), 0);
        e.due("top()", new TwinShelf().top(), 0);
        e.due("bottom()", new TwinShelf().bottom(), 1);
        int[] told = {3, 1, 1, 0, 0, 0, 0, 0};
        for (int what = 0; what < 8; what++) {
            TwinShelf x = new TwinShelf();
            e.fine(x, "told(" + what + ")", x.told(what), told[what]);
        }
        e.not(TwinShelf::new, "row(0, 0)", x -> x.row(0, 0), 1);
        e.not(TwinShelf::new, "places(0)", x -> x.places(0), 1);
        e.not(TwinShelf::new, "load(0)", x -> x.load(0), 1);
        e.not(TwinShelf::new, "reach(0, 0)", x -> x.reach(0, 0), 1);
        e.not(TwinShelf::new, "part(1)", x -> x.part(1), 1);
        e.not(TwinShelf::new, "lost(1)", x -> x.lost(1), 1);
        for (int i = 0; i < 4; i++) {
            int n = i;
            e.not(TwinShelf::new, "ticket(" + n + ", -1)", x -> x.ticket(n, -1), 6);
            e.not(TwinShelf::new, "read(" + n + ", 0)", x -> x.read(n, 0), 2);
        }
        e.not(TwinShelf::new, "live(0)", x -> x.live(0), 6);
        e.not(TwinShelf::new, "agreed(0, 1)", x -> x.agreed(0, 1), 6);
        e.not(TwinShelf::new, "back()", TwinShelf::back, 6);
        e.not(TwinShelf::new, "shelf(1)", x -> x.shelf(1), 1);
        e.not(TwinShelf::new, "days(1)", x -> x.days(1), 1);
        TwinShelf x = new TwinShelf();
        e.due("feed()", x.feed(0, 0, 0, 0, 0), 20);
        e.fine(x, "alike()", x.alike(), 0);
        e.fine(x, "hand()", x.hand(), 0);
        e.fine(x, "lost(0)", x.lost(0), 0);
        e.fine(x, "moved(0)", x.moved(0), 0);
        e.fine(x, "part(0)", x.part(0));
    }

    private static void statusStays(Edge e) {
        e.says(2, "STATUS of the latest call that has one.");
        TwinShelf x = Edge.rich();
        int[] statuses = {0, 1, 2, 3, 4, 6, 7, 8, 9};
        for (int status : statuses) {
            refuse(x, status);
            e.due("status()", x.status(), status);
            e.due("status() again", x.status(), status);
            x.top();
            x.bottom();
            e.terms("status(), top(), bottom(), feed(), fault() have none.");
            e.due("status() behind top(), bottom()", x.status(), status);
            x.fault(0);
            x.fault(1);
            x.fault(2);
            e.due("status() behind fault()", x.status(), status);
            x.feed(0, 0, 0, 0, 0);
            e.due("status() behind feed()", x.status(), status);
            for (int i = 0; i < 45; i++) {
                x.feed(0, 0, 0, 0, 0);
            }
            e.due("status() behind feed() beyond 900", x.status(), status);
            x.shelf(900);
            e.says(2, "STATUS of the latest call that has one.");
        }
    }

    private static void refuse(TwinShelf x, int status) {
        switch (status) {
            case 1 -> x.tray(4, 0, 0);
            case 2 -> x.read(3, 0);
            case 3 -> x.read(0, 3);
            case 4 -> {
                x.mark();
                x.mark();
                x.mark();
            }
            case 6 -> x.got(99);
            case 7 -> x.put(2, 2, 1, -1);
            case 8 -> x.pour(0, 0, 1, 0, 0);
            case 9 -> {
                Check.shelf(x, ";");
            }
            default -> x.hand();
        }
    }

    private static void fraction(Edge e, TwinShelf x, long top, long bottom) {
        e.due("top()", x.top(), top);
        e.due("bottom()", x.bottom(), bottom);
    }

    private static void fractions(Edge e) {
        TwinShelf x = Check.with(Edge.FIVE);
        x.part(1);
        x.put(0, 0, 5, -1);
        x.part(0);
        e.says(3, "The top of the FRACTION told latest.");
        x.odds(0, 0, 5);
        fraction(e, x, 2, 3);
        x.odds(0, 0, 6);
        fraction(e, x, 0, 1);
        x.days(0);
        x.odds(0, 0, 5);
        x.odds(0, 9, 5);
        fraction(e, x, 2, 3);
        x.agreed(0, 7);
        fraction(e, x, 0, 1);
        x.night(0, 1);
        x.night(0, 2);
        x.agreed(0, 7);
        fraction(e, x, 1, 1);
        e.says(4, "Its bottom, above 0.");
        e.due("bottom() of 0 by 1", new TwinShelf().bottom(), 1);
        x.odds(0, 0, 999);
        e.due("bottom() of 0 of 3", x.bottom(), 1);
    }

    private static void traysAtFirst(Edge e) {
        e.terms("TRAYS 0 to 3 are MISSING at first");
        for (int i = 0; i < 4; i++) {
            int tray = i;
            e.not(TwinShelf::new, "read(" + tray + ", 0)", x -> x.read(tray, 0), 2);
            e.not(TwinShelf::new, "write(" + tray + ", 0, 1)", x -> x.write(tray, 0, 1), 2);
            TwinShelf x = new TwinShelf();
            e.fine(x, "tray(" + tray + ", 0, 1)", x.tray(tray, 0, 1));
            e.fine(x, "read(" + tray + ", 0)", x.read(tray, 0), 0);
            for (int other = 0; other < 4; other++) {
                x.read(other, 0);
                e.due("TRAY " + other + " beside TRAY " + tray, x.status(), other == tray ? 0 : 2);
            }
        }
        for (int odd : new int[] {-1, 4, 5, Integer.MIN_VALUE, Integer.MAX_VALUE}) {
            e.not(Edge::rich, "tray(" + odd + ", 0, 1)", x -> x.tray(odd, 0, 1), 1);
            e.not(Edge::rich, "read(" + odd + ", 0)", x -> x.read(odd, 0), 1);
            e.not(Edge::rich, "write(" + odd + ", 0, 1)", x -> x.write(odd, 0, 1), 1);
            e.not(Edge::rich, "pour(" + odd + ", ..)", x -> x.pour(odd, 0, 0, 0, 0), 1);
            e.not(Edge::rich, "pour(.., " + odd + ", ..)", x -> x.pour(0, 0, odd, 0, 0), 1);
        }
    }

    private static void manyInTray(Edge e) {
        e.terms("or rows of 0 to 60 numbers");
        for (int many : new int[] {0, 1, 2, 59, 60}) {
            TwinShelf x = new TwinShelf();
            e.fine(x, "tray(2, 3, " + many + ")", x.tray(2, 3, many));
            for (int place = 0; place < many; place++) {
                e.fine(x, "read(2, " + place + ")", x.read(2, place), 0);
            }
            x.read(2, many);
            e.due("the place behind the last of " + many, x.status(), 3);
        }
        for (int odd : new int[] {-1, 61, 62, Integer.MIN_VALUE, Integer.MAX_VALUE}) {
            e.not(Edge::rich, "tray(0, 0, " + odd + ")", x -> x.tray(0, 0, odd), 1);
            e.not(Edge::rich, "tray(3, 0, " + odd + ")", x -> x.tray(3, 0, odd), 1);
        }
        e.says(5, "A TRAY is a row of so many 0s (1).");
        TwinShelf x = Edge.rich();
        e.fine(x, "tray(0, 0, 3) anew", x.tray(0, 0, 3));
        e.fine(x, "read(0, 2) is 0 again", x.read(0, 2), 0);
        e.fine(x, "tray(0, 3, 60), longer", x.tray(0, 3, 60));
        x.write(0, 59, 7);
        e.fine(x, "tray(0, 3, 1), shorter", x.tray(0, 3, 1));
        e.due("read(0, 1)", x.read(0, 1), -1);
        e.fine(x, "tray(0, 3, 60), longer again", x.tray(0, 3, 60));
        e.fine(x, "read(0, 59)", x.read(0, 59), 0);
        e.not(Edge::rich, "tray(4, 4, 61)", y -> y.tray(4, 4, 61), 1);
    }

    private static void sorts(Edge e) {
        e.terms("numbers of 8 bits (sort 0), 16 (1), 32 (2) or 64 (3).");
        for (int sort = 0; sort < 4; sort++) {
            TwinShelf x = new TwinShelf();
            e.fine(x, "tray(0, " + sort + ", 1)", x.tray(0, sort, 1));
        }
        for (int odd : new int[] {-1, 4, 5, Integer.MIN_VALUE, Integer.MAX_VALUE}) {
            e.not(Edge::rich, "tray(0, " + odd + ", 1)", x -> x.tray(0, odd, 1), 1);
        }
    }

    private static void cut(Edge e, int sort, long v, long due) {
        TwinShelf x = new TwinShelf();
        x.tray(1, sort, 3);
        e.fine(x, "write(1, 1, " + v + ") of sort " + sort, x.write(1, 1, v));
        e.fine(x, "read(1, 1) of " + v + ", sort " + sort, x.read(1, 1), due);
        e.fine(x, "the place ahead", x.read(1, 0), 0);
        e.fine(x, "the place behind", x.read(1, 2), 0);
    }

    private static void cuts(Edge e) {
        e.says(6, "A number comes to a place of a TRAY, cut to its sort (1, 2, 3).");
        for (int sort = 0; sort < 3; sort++) {
            int bits = 8 << sort;
            long least = -(1L << (bits - 1));
            long most = (1L << (bits - 1)) - 1;
            cut(e, sort, most - 1, most - 1);
            cut(e, sort, most, most);
            cut(e, sort, most + 1, least);
            cut(e, sort, least + 1, least + 1);
            cut(e, sort, least, least);
            cut(e, sort, least - 1, most);
            cut(e, sort, (1L << bits) - 1, -1);
            cut(e, sort, 1L << bits, 0);
            cut(e, sort, (1L << bits) + 1, 1);
            cut(e, sort, Long.MAX_VALUE, -1);
            cut(e, sort, Long.MIN_VALUE, 0);
        }
        cut(e, 3, Long.MAX_VALUE, Long.MAX_VALUE);
        cut(e, 3, Long.MIN_VALUE, Long.MIN_VALUE);
        cut(e, 3, (1L << 31) + 1, (1L << 31) + 1);
        cut(e, 3, 0, 0);
    }

    private static void writes(Edge e) {
        e.says(6, "(1, 2, 3).");
        TwinShelf x = new TwinShelf();
        x.tray(0, 3, 60);
        e.fine(x, "write at the first place", x.write(0, 0, 4));
        e.fine(x, "write at the last place", x.write(0, 59, 5));
        e.fine(x, "read(0, 0)", x.read(0, 0), 4);
        e.fine(x, "read(0, 59)", x.read(0, 59), 5);
        for (int odd : new int[] {-1, 3, 4, 59, 60, Integer.MIN_VALUE, Integer.MAX_VALUE}) {
            e.not(Edge::rich, "write(0, " + odd + ", 1)", y -> y.write(0, odd, 1), 3);
            e.not(Edge::rich, "write(3, " + odd + ", 1) of a MISSING one", y -> y.write(3, odd, 1), 2);
            e.not(Edge::rich, "write(4, " + odd + ", 1) of none", y -> y.write(4, odd, 1), 1);
        }
        e.not(Edge::rich, "write(1, 0, 1) of no numbers", y -> y.write(1, 0, 1), 3);
    }

    private static void reads(Edge e) {
        e.says(7, "STATUS tells NONE from -1 (1, 2, 3).");
        TwinShelf x = Edge.rich();
        e.fine(x, "read of a -1", x.read(0, 2), -1);
        for (int odd : new int[] {-1, 3, 4, 59, 60, Integer.MIN_VALUE, Integer.MAX_VALUE}) {
            e.not(Edge::rich, "read(0, " + odd + ")", y -> y.read(0, odd), 3);
            e.not(Edge::rich, "read(3, " + odd + ") of a MISSING one", y -> y.read(3, odd), 2);
            e.not(Edge::rich, "read(-1, " + odd + ") of none", y -> y.read(-1, odd), 1);
        }
        e.not(Edge::rich, "read(1, 0) of no numbers", y -> y.read(1, 0), 3);
    }

    /** TRAYS 0 (six numbers, 10 to 15) and 1 (four, 20 to 23) of one sort, 2 (four, 30 to 33) of another. */
    private static TwinShelf three() {
        TwinShelf x = new TwinShelf();
        x.tray(0, 2, 6);
        x.tray(1, 2, 4);
        x.tray(2, 1, 4);
        for (int i = 0; i < 6; i++) {
            x.write(0, i, 10 + i);
            x.write(1, i, 20 + i);
            x.write(2, i, 30 + i);
        }
        return x;
    }

    private static void row(Edge e, TwinShelf x, int tray, long... due) {
        for (int i = 0; i < due.length; i++) {
            e.fine(x, "read(" + tray + ", " + i + ")", x.read(tray, i), due[i]);
        }
    }

    private static void pours(Edge e) {
        e.says(8, "So many numbers of a TRAY, from a place on, come to another one's (or its own) place on");
        TwinShelf x = three();
        e.fine(x, "all of the other", x.pour(1, 0, 0, 0, 4));
        row(e, x, 0, 20, 21, 22, 23, 14, 15);
        x = three();
        e.fine(x, "to the end, just so", x.pour(1, 0, 0, 2, 4));
        row(e, x, 0, 10, 11, 20, 21, 22, 23);
        x = three();
        e.fine(x, "from the last place, to the last place", x.pour(0, 5, 1, 3, 1));
        row(e, x, 1, 20, 21, 22, 15);
        row(e, x, 0, 10, 11, 12, 13, 14, 15);
        x = three();
        e.fine(x, "no numbers", x.pour(0, 0, 1, 0, 0));
        e.fine(x, "no numbers, from the last place", x.pour(0, 5, 1, 3, 0));
        e.fine(x, "no numbers, from behind the last place", x.pour(0, 6, 1, 4, 0));
        row(e, x, 1, 20, 21, 22, 23);
        x.tray(3, 2, 0);
        e.fine(x, "no numbers from a row of none", x.pour(3, 0, 1, 0, 0));
        e.fine(x, "no numbers to a row of none", x.pour(1, 0, 3, 0, 0));
        for (int sort = 0; sort < 4; sort++) {
            x.tray(0, sort, 60);
            x.tray(1, sort, 60);
            x.write(0, 0, -5);
            x.write(0, 59, -6);
            e.fine(x, "all 60 of sort " + sort, x.pour(0, 0, 1, 0, 60));
            e.fine(x, "the first", x.read(1, 0), -5);
            e.fine(x, "the last", x.read(1, 59), -6);
        }
    }

    private static void poursOntoItself(Edge e) {
        e.says(8, "(or its own) place on, as they were");
        TwinShelf x = three();
        e.fine(x, "one on", x.pour(0, 0, 0, 1, 5));
        row(e, x, 0, 10, 10, 11, 12, 13, 14);
        x = three();
        e.fine(x, "one back", x.pour(0, 1, 0, 0, 5));
        row(e, x, 0, 11, 12, 13, 14, 15, 15);
        x = three();
        e.fine(x, "all of it to where it is", x.pour(0, 0, 0, 0, 6));
        row(e, x, 0, 10, 11, 12, 13, 14, 15);
    }

    private static void pourRefusals(Edge e) {
        e.says(8, "(1: below 0, too; 2; 8; 3; asked in this order).");
        for (int odd : new int[] {-1, Integer.MIN_VALUE}) {
            e.not(TrayEdges::three, "place " + odd, x -> x.pour(0, odd, 1, 0, 1), 1);
            e.not(TrayEdges::three, "at " + odd, x -> x.pour(0, 0, 1, odd, 1), 1);
            e.not(TrayEdges::three, "many " + odd, x -> x.pour(0, 0, 1, 0, odd), 1);
        }
        e.not(TrayEdges::three, "from a MISSING one", x -> x.pour(3, 0, 1, 0, 0), 2);
        e.not(TrayEdges::three, "to a MISSING one", x -> x.pour(1, 0, 3, 0, 0), 2);
        e.not(TrayEdges::three, "a MISSING one to itself", x -> x.pour(3, 0, 3, 0, 0), 2);
        e.not(TrayEdges::three, "unlike sorts", x -> x.pour(1, 0, 2, 0, 1), 8);
        e.not(TrayEdges::three, "no numbers of unlike sorts", x -> x.pour(2, 0, 1, 0, 0), 8);
        e.not(TrayEdges::three, "one more than there are", x -> x.pour(1, 0, 0, 0, 5), 3);
        e.not(TrayEdges::three, "one more than go in", x -> x.pour(0, 0, 1, 0, 5), 3);
        e.not(TrayEdges::three, "one more from a place on", x -> x.pour(0, 4, 1, 0, 3), 3);
        e.not(TrayEdges::three, "one more to a place on", x -> x.pour(0, 0, 1, 2, 3), 3);
        e.not(TrayEdges::three, "one from behind the last", x -> x.pour(0, 6, 1, 0, 1), 3);
        e.not(TrayEdges::three, "one to behind the last", x -> x.pour(0, 0, 1, 4, 1), 3);
        e.not(TrayEdges::three, "none from two behind the last", x -> x.pour(0, 7, 1, 0, 0), 3);
        e.not(TrayEdges::three, "none to two behind the last", x -> x.pour(0, 0, 1, 5, 0), 3);
        int far = Integer.MAX_VALUE;
        e.not(TrayEdges::three, "from far", x -> x.pour(0, far, 1, 0, 1), 3);
        e.not(TrayEdges::three, "to far", x -> x.pour(0, 0, 1, far, 1), 3);
        e.not(TrayEdges::three, "very many", x -> x.pour(0, 1, 1, 1, far), 3);
        e.not(TrayEdges::three, "very many from far to far", x -> x.pour(0, far, 1, far, far), 3);
    }

    private static void pourOrder(Edge e) {
        e.says(8, "asked in this order).");
        e.not(TrayEdges::three, "1 ahead of 2", x -> x.pour(3, -1, 1, 0, 1), 1);
        e.not(TrayEdges::three, "1 ahead of 2, no such TRAY", x -> x.pour(3, 0, 4, 0, 1), 1);
        e.not(TrayEdges::three, "1 ahead of 8", x -> x.pour(1, 0, 2, -1, 1), 1);
        e.not(TrayEdges::three, "1 ahead of 3", x -> x.pour(0, 99, 1, 0, -1), 1);
        e.not(TrayEdges::three, "2 ahead of 8 and 3", x -> x.pour(2, 99, 3, 0, 1), 2);
        e.not(TrayEdges::three, "8 ahead of 3", x -> x.pour(1, 5, 2, 0, 1), 8);
        e.not(TrayEdges::three, "8 ahead of 3, there", x -> x.pour(1, 0, 2, 5, 1), 8);
        e.not(TrayEdges::three, "8 ahead of 3, too many", x -> x.pour(2, 0, 1, 0, 5), 8);
    }
}
