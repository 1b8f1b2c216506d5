/** Promises 29 to 40, 43 and 44: twins, twin, seen, partOf, hints, ticket, like, alike, differ, root, fresh, late, nights, safe. */
public final class HaveTest {
    private static final Check CHECK = new Check("HaveTest");
    /** Rows: x a b c d e, y d e a b c, s c d e a b; the first three of each are its places. */
    private static final String FIVE = "places 3 reads 2 writes 3;keeper a at 0;keeper b at 100;keeper c at 200;"
        + "keeper d at 300;keeper e at 400;key x at 0;key y at 250;key s at 150 sum;";

    public static void main(String[] args) {
        twinsStand();
        seenAndParts();
        hints();
        likes();
        roots();
        freshAndLate();
        nights();
        nightsParted();
        safe();
        CHECK.end();
    }

    private static void twinsStand() {
        TwinShelf x = Check.with(FIVE);
        x.put(0, 2, 7, -1);
        x.put(0, 0, 9, -1);
        x.put(0, 2, 3, -1);
        x.strike(0, 1, -1);
        int[][] due = {{9, 0, 1}, {1000, 1, 1}, {7, 2, 1}, {3, 2, 2}};
        CHECK.fine(x, "twins(1, 0)", x.twins(1, 0), 4);
        for (int k = 0; k < 4; k++) {
            for (int what = 0; what < 3; what++) {
                CHECK.fine(x, "twin(1, 0, " + k + ", " + what + ")", x.twin(1, 0, k, what), due[k][what]);
            }
        }
        CHECK.not(x, "twin(1, 0, 4, 0)", x.twin(1, 0, 4, 0), 6);
        CHECK.not(x, "twin(1, 0, -1, 0)", x.twin(1, 0, -1, 0), 6);
        CHECK.not(x, "twin(1, 0, max, 0)", x.twin(1, 0, Integer.MAX_VALUE, 0), 6);
        CHECK.not(x, "twin(1, 0, 0, 3)", x.twin(1, 0, 0, 3), 1);
        CHECK.not(x, "twin(1, 0, 9, -1)", x.twin(1, 0, 9, -1), 1);
        CHECK.not(x, "twin(5, 0, 0, 0)", x.twin(5, 0, 0, 0), 1);
        CHECK.not(x, "twin(0, 3, 0, 0)", x.twin(0, 3, 0, 0), 1);
        CHECK.not(x, "twins(5, 0)", x.twins(5, 0), 1);
        CHECK.not(x, "twins(0, 3)", x.twins(0, 3), 1);
        CHECK.not(x, "twins(-1, 0)", x.twins(-1, 0), 1);
        x.add(2, 2, 3);
        CHECK.fine(x, "twins of a sum", x.twins(2, 2), 0);
        CHECK.not(x, "twin of a sum", x.twin(2, 2, 0, 0), 6);
    }

    private static void seenAndParts() {
        TwinShelf x = Check.with(FIVE);
        x.put(0, 0, 1, -1);
        x.put(0, 0, 1, -1);
        x.put(0, 1, 1, -1);
        CHECK.fine(x, "seen(2, 0, 0)", x.seen(2, 0, 0), 2);
        CHECK.fine(x, "seen(2, 0, 1)", x.seen(2, 0, 1), 1);
        CHECK.fine(x, "seen(2, 0, 2)", x.seen(2, 0, 2), 0);
        CHECK.fine(x, "seen(3, 0, 0)", x.seen(3, 0, 0), 0);
        x.add(2, 3, 50);
        CHECK.fine(x, "seen of a sum", x.seen(3, 2, 3), 0);
        CHECK.fine(x, "partOf(2, 2, 3)", x.partOf(2, 2, 3), 50);
        CHECK.fine(x, "partOf(3, 2, 2)", x.partOf(3, 2, 2), 0);
        CHECK.not(x, "partOf(0, 0, 0)", x.partOf(0, 0, 0), 7);
        CHECK.not(x, "partOf(0, 0, 5)", x.partOf(0, 0, 5), 1);
        CHECK.not(x, "partOf(5, 2, 0)", x.partOf(5, 2, 0), 1);
        CHECK.not(x, "partOf(0, -1, 0)", x.partOf(0, -1, 0), 1);
        CHECK.not(x, "seen(5, 0, 0)", x.seen(5, 0, 0), 1);
        CHECK.not(x, "seen(0, 3, 0)", x.seen(0, 3, 0), 1);
        CHECK.not(x, "seen(0, 0, 5)", x.seen(0, 0, 5), 1);
        CHECK.not(x, "seen(0, 0, -1)", x.seen(0, 0, -1), 1);
    }

    private static void hints() {
        TwinShelf x = Check.with(FIVE);
        x.part(1 | 8 | 16);
        x.put(0, 0, 1, -1);
        CHECK.fine(x, "hints(3)", x.hints(3), 1);
        CHECK.fine(x, "hints(4)", x.hints(4), 1);
        x.put(1, 3, 1, -1);
        CHECK.fine(x, "hints(3): all places of y are reached", x.hints(3), 1);
        x.add(2, 3, 1);
        CHECK.fine(x, "hints(0), for c at s", x.hints(0), 1);
        CHECK.not(x, "hints(5)", x.hints(5), 1);
        CHECK.not(x, "hints(-1)", x.hints(-1), 1);
    }

    private static void likes() {
        TwinShelf x = Check.with(FIVE);
        CHECK.fine(x, "alike() of nothing", x.alike(), 7);
        x.put(0, 0, 1, -1);
        CHECK.fine(x, "alike()", x.alike(), 7);
        CHECK.fine(x, "like(0, 1, 0)", x.like(0, 1, 0), 1);
        CHECK.fine(x, "like(0, 3, 0)", x.like(0, 3, 0), 0);
        CHECK.fine(x, "like(3, 3, 0)", x.like(3, 3, 0), 1);
        x.part(1);
        x.put(0, 0, 2, -1);
        x.put(1, 0, 2, -1);
        x.part(4);
        x.add(2, 2, 1);
        CHECK.fine(x, "alike()", x.alike(), 0);
        CHECK.fine(x, "like(1, 2, 0)", x.like(1, 2, 0), 1);
        CHECK.fine(x, "like(0, 2, 0)", x.like(0, 2, 0), 0);
        CHECK.fine(x, "like(2, 3, 2) of a sum", x.like(2, 3, 2), 0);
        CHECK.fine(x, "differ(0, 1)", x.differ(0, 1), 1);
        CHECK.fine(x, "differ(0, 2)", x.differ(0, 2), 1);
        CHECK.fine(x, "differ(1, 2)", x.differ(1, 2), 0);
        CHECK.fine(x, "differ(0, 4)", x.differ(0, 4), 2);
        CHECK.fine(x, "differ(2, 4)", x.differ(2, 4), 4);
        CHECK.fine(x, "differ(0, 0)", x.differ(0, 0), 0);
        CHECK.fine(x, "differ(1, 3): no key is of both", x.differ(1, 3), 0);
        CHECK.not(x, "differ(0, 5)", x.differ(0, 5), 1);
        CHECK.not(x, "differ(-1, 0)", x.differ(-1, 0), 1);
        CHECK.not(x, "like(0, 5, 0)", x.like(0, 5, 0), 1);
        CHECK.not(x, "like(5, 0, 0)", x.like(5, 0, 0), 1);
        CHECK.not(x, "like(0, 0, 3)", x.like(0, 0, 3), 1);
        // like in twins, unlike in seen
        x = Check.with(FIVE);
        x.strike(0, 0, -1);
        x.bury(0);
        CHECK.fine(x, "twins(0, 0)", x.twins(0, 0), 0);
        CHECK.fine(x, "like(0, 4, 0)", x.like(0, 4, 0), 0);
    }

    private static void roots() {
        TwinShelf x = Check.with(FIVE);
        CHECK.fine(x, "root(0) of nothing", x.root(0), 0);
        x.put(0, 0, 5, -1);
        // a is a place of x and y, b of x alone: 7 + 5 + 3 * 1
        CHECK.fine(x, "root(1)", x.root(1), 15);
        CHECK.fine(x, "root(0)", x.root(0), 15 * 31);
        CHECK.fine(x, "root(3)", x.root(3), 0);
        x.strike(0, 1, -1);
        // 12 + 1,007 + 3 * 2
        CHECK.fine(x, "root(1)", x.root(1), 1025);
        // c: x, then s
        x.add(2, 3, 40);
        CHECK.fine(x, "root(2)", x.root(2), 1025 * 31 + 40);
        CHECK.fine(x, "root(3): y, then s", x.root(3), 40);
        x.put(1, 3, 0, -1);
        CHECK.fine(x, "root(0)", x.root(0), 1025 * 31 + 10);
        CHECK.not(x, "root(5)", x.root(5), 1);
        CHECK.not(x, "root(-1)", x.root(-1), 1);
        // what is left by 1,000,003
        x = Check.with("keeper a at 1;key s at 1 sum;key t at 1 sum;");
        for (int i = 0; i < 40; i++) {
            x.add(0, 0, 999);
        }
        x.add(1, 0, 7);
        CHECK.fine(x, "root(0)", x.root(0), (39960L * 31 + 7) % 1000003);
    }

    private static void freshAndLate() {
        TwinShelf x = Check.with(FIVE);
        CHECK.fine(x, "fresh(0) of nothing", x.fresh(0), 7);
        x.put(0, 0, 1, -1);
        x.part(1);
        x.put(0, 0, 2, -1);
        x.put(0, 0, 3, -1);
        CHECK.fine(x, "fresh(0)", x.fresh(0), 1);
        CHECK.fine(x, "late(0, 0)", x.late(0, 0), 0);
        CHECK.fine(x, "late(1, 0)", x.late(1, 0), 2);
        CHECK.fine(x, "late(4, 0)", x.late(4, 0), 3);
        CHECK.fine(x, "late(0, 1) of another key", x.late(0, 1), 0);
        x.put(0, 1, 4, -1);
        CHECK.fine(x, "late(2, 0) ahead of fresh()", x.late(2, 0), 2);
        CHECK.fine(x, "fresh(0): nobody has all", x.fresh(0), 0);
        CHECK.fine(x, "late(0, 0)", x.late(0, 0), 1);
        CHECK.fine(x, "late(2, 0)", x.late(2, 0), 2);
        CHECK.fine(x, "late(3, 0): hints are none", x.late(3, 0), 4);
        x.part(4);
        x.add(2, 2, 10);
        x.add(2, 3, 4);
        CHECK.fine(x, "fresh(2)", x.fresh(2), 0);
        CHECK.fine(x, "late(2, 2)", x.late(2, 2), 4);
        CHECK.fine(x, "late(4, 2)", x.late(4, 2), 10);
        CHECK.fine(x, "late(0, 2)", x.late(0, 2), 14);
        x.part(0);
        x.night(2, 4);
        CHECK.fine(x, "fresh(2)", x.fresh(2), 20);
        CHECK.not(x, "fresh(3)", x.fresh(3), 1);
        CHECK.not(x, "fresh(-1)", x.fresh(-1), 1);
        CHECK.not(x, "late(5, 0)", x.late(5, 0), 1);
        CHECK.not(x, "late(0, 3)", x.late(0, 3), 1);
    }

    /** Six keepers, all places of x, the first so many of whom put by themselves. */
    private static TwinShelf six(int putters) {
        TwinShelf x = Check.with("places 6 reads 1 writes 1;keeper a at 0;keeper b at 1;keeper c at 2;keeper d at 3;"
            + "keeper e at 4;keeper f at 5;key x at 0;");
        for (int i = 0; i < putters; i++) {
            x.part(1 << i);
            x.put(0, i, i, -1);
        }
        x.part(0);
        return x;
    }

    private static void nights() {
        CHECK.fine(six(0), "nights(0) of like ones", six(0).nights(0), 0);
        TwinShelf x = six(1);
        CHECK.not(x, "one of six: 5 nights", x.nights(0), 6);
        x.night(0, 1);
        CHECK.fine(x, "four are behind", x.nights(0), 4);
        x.night(0, 2);
        CHECK.fine(x, "three are behind", x.nights(0), 3);
        x.night(1, 3);
        x.night(2, 4);
        CHECK.fine(x, "one is behind", x.nights(0), 1);
        CHECK.fine(x, "nothing is changed", x.twins(5, 0), 0);
        x = Check.with("places 4 reads 1 writes 1;keeper a at 0;keeper b at 1;keeper c at 2;keeper d at 3;key x at 0;");
        for (int i = 0; i < 4; i++) {
            x.part(1 << i);
            x.put(0, i, i, -1);
        }
        x.part(0);
        CHECK.fine(x, "four unlike ones", x.nights(0), 4);
        x.night(0, 1);
        CHECK.fine(x, "two couples", x.nights(0), 3);
        x.night(2, 3);
        CHECK.fine(x, "two unlike couples", x.nights(0), 2);
        CHECK.not(x, "nights(1)", x.nights(1), 1);
        CHECK.not(x, "nights(-1)", x.nights(-1), 1);
    }

    private static void nightsParted() {
        TwinShelf x = Check.with(FIVE);
        x.part(4);
        x.put(0, 2, 1, -1);
        x.add(2, 2, 5);
        CHECK.not(x, "parted", x.nights(0), 6);
        x.part(0);
        x.fall(2, true);
        CHECK.not(x, "fallen", x.nights(0), 6);
        x.fall(2, false);
        CHECK.fine(x, "two nights", x.nights(0), 2);
        CHECK.fine(x, "two nights of a sum", x.nights(2), 2);
        x.part(4 | 1);
        CHECK.not(x, "b is parted", x.nights(0), 6);
        x.night(0, 2);
        CHECK.not(x, "b is still parted", x.nights(0), 6);
        x.part(2 | 4);
        CHECK.fine(x, "b meets c", x.nights(0), 1);
        // a watcher is of no use
        x.fall(2, true);
        CHECK.not(x, "nobody but a meets b", x.nights(0), 6);
        x.part(0);
        CHECK.fine(x, "a meets b", x.nights(0), 1);
    }

    private static void safe() {
        TwinShelf x = Check.with(FIVE);
        x.put(0, 0, 5, -1);
        CHECK.fine(x, "safe(0, 5)", x.safe(0, 5), 3);
        x.fall(1, true);
        x.strike(0, 0, -1);
        CHECK.fine(x, "safe(0, 5), with a hint", x.safe(0, 5), 4);
        CHECK.fine(x, "safe(0, 1000)", x.safe(0, 1000), 3);
        CHECK.not(x, "safe(0, 6)", x.safe(0, 6), 6);
        CHECK.not(x, "safe(0, 0)", x.safe(0, 0), 6);
        x.put(1, 0, 0, -1);
        CHECK.fine(x, "safe(1, 0)", x.safe(1, 0), 3);
        CHECK.not(x, "safe(1, 5)", x.safe(1, 5), 6);
        CHECK.not(x, "safe(2, 5) of a sum", x.safe(2, 5), 7);
        CHECK.not(x, "safe(0, 1001)", x.safe(0, 1001), 1);
        CHECK.not(x, "safe(0, -1)", x.safe(0, -1), 1);
        CHECK.not(x, "safe(3, 5)", x.safe(3, 5), 1);
    }
}
