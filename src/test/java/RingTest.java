/** Promises 13 to 16, 41 and 42: told, row, places, reach, load, moved. */
public final class RingTest {
    private static final Check CHECK = new Check("RingTest");

    public static void main(String[] args) {
        told();
        rows();
        fewKeepers();
        reaches();
        loads();
        moves();
        CHECK.end();
    }

    private static void told() {
        TwinShelf x = Check.with("places 5 reads 2 writes 4;keeper a at 9;keeper b at 8;key x at 1;key y at 2;key z at 3;");
        int[] due = {5, 2, 4, 2, 3, 3, 0, 0};
        for (int what = 0; what < 8; what++) {
            CHECK.fine(x, "told(" + what + ")", x.told(what), due[what]);
        }
        CHECK.not(x, "told(8)", x.told(8), 1);
        CHECK.not(x, "told(-1)", x.told(-1), 1);
        x.fall(0, true);
        CHECK.fine(x, "told(5)", x.told(5), 2);
        x.part(3);
        CHECK.fine(x, "told(6)", x.told(6), 3);
        x = Check.with("keeper a at 9;key x at 1;");
        CHECK.fine(x, "told(0) without", x.told(0), 3);
        CHECK.fine(x, "told(1) without", x.told(1), 1);
        CHECK.fine(x, "told(2) without", x.told(2), 1);
        x.get(0, 0, 3);
        x.get(0, 0, 1);
        CHECK.fine(x, "told(7)", x.told(7), 10);
    }

    private static void row(TwinShelf x, int key, int... keepers) {
        for (int k = 0; k < keepers.length; k++) {
            CHECK.fine(x, "row(" + key + ", " + k + ")", x.row(key, k), keepers[k]);
        }
        CHECK.not(x, "row(" + key + ", " + keepers.length + ")", x.row(key, keepers.length), 6);
    }

    private static void rows() {
        TwinShelf x = Check.with("places 2 reads 1 writes 1;keeper a at 500;keeper b at 0;keeper c at 999;keeper d at 200;"
            + "key x at 500;key y at 501;key z at 0;key w at 1;key v at 999;");
        row(x, 0, 0, 2, 1, 3);
        row(x, 1, 2, 1, 3, 0);
        row(x, 2, 1, 3, 0, 2);
        row(x, 3, 3, 0, 2, 1);
        row(x, 4, 2, 1, 3, 0);
        CHECK.fine(x, "places(0)", x.places(0), 5);
        CHECK.fine(x, "places(1)", x.places(1), 6);
        CHECK.fine(x, "places(2)", x.places(2), 10);
        CHECK.fine(x, "places(3)", x.places(3), 9);
        CHECK.not(x, "places(5)", x.places(5), 1);
        CHECK.not(x, "places(-1)", x.places(-1), 1);
        CHECK.not(x, "row(5, 0)", x.row(5, 0), 1);
        CHECK.not(x, "row(-1, 9)", x.row(-1, 9), 1);
        CHECK.not(x, "row(0, -1)", x.row(0, -1), 6);
    }

    private static void fewKeepers() {
        TwinShelf x = Check.with("places 6 reads 1 writes 1;keeper a at 5;keeper b at 4;key x at 9;");
        CHECK.fine(x, "places(0) of two keepers", x.places(0), 3);
        row(x, 0, 1, 0);
        x = Check.with("key x at 9;");
        CHECK.fine(x, "places(0) of none", x.places(0), 0);
        CHECK.not(x, "row(0, 0) of none", x.row(0, 0), 6);
        CHECK.fine(x, "alike() of none", x.alike(), 1);
        CHECK.fine(x, "bury(0) of none", x.bury(0), 0);
        CHECK.fine(x, "fresh(0) of none", x.fresh(0), 0);
        CHECK.fine(x, "nights(0) of none", x.nights(0), 0);
        CHECK.fine(x, "moved(9)", x.moved(9), 1);
    }

    private static void reaches() {
        TwinShelf x = Check.with("keeper a at 1;keeper b at 2;keeper c at 3;");
        CHECK.fine(x, "reach(0, 1)", x.reach(0, 1), 1);
        CHECK.fine(x, "reach(2, 2)", x.reach(2, 2), 1);
        x.part(4);
        CHECK.fine(x, "reach(0, 1) parted together", x.reach(0, 1), 1);
        CHECK.fine(x, "reach(0, 2) parted", x.reach(0, 2), 0);
        CHECK.fine(x, "reach(2, 0) parted", x.reach(2, 0), 0);
        CHECK.fine(x, "reach(2, 2) parted", x.reach(2, 2), 1);
        x.part(6);
        CHECK.fine(x, "reach(1, 2) within the set", x.reach(1, 2), 1);
        CHECK.fine(x, "reach(0, 1) across", x.reach(0, 1), 0);
        x.part(7);
        CHECK.fine(x, "reach(0, 1), all parted from none", x.reach(0, 1), 1);
        x.part(0);
        x.fall(1, true);
        CHECK.fine(x, "reach(0, 1) fallen", x.reach(0, 1), 0);
        CHECK.fine(x, "reach(1, 0) fallen", x.reach(1, 0), 0);
        CHECK.fine(x, "reach(1, 1) fallen", x.reach(1, 1), 0);
        CHECK.not(x, "reach(3, 0)", x.reach(3, 0), 1);
        CHECK.not(x, "reach(0, -1)", x.reach(0, -1), 1);
    }

    private static void loads() {
        TwinShelf x = Check.with("places 2 reads 1 writes 1;keeper a at 100;keeper b at 400;keeper c at 700;"
            + "key x at 300;key y at 800 sum;key z at 101;");
        CHECK.fine(x, "load(0)", x.load(0), 1);
        CHECK.fine(x, "load(1)", x.load(1), 3);
        CHECK.fine(x, "load(2)", x.load(2), 2);
        CHECK.not(x, "load(3)", x.load(3), 1);
        CHECK.not(x, "load(-1)", x.load(-1), 1);
    }

    private static void moves() {
        TwinShelf x = Check.with("places 2 reads 1 writes 1;keeper a at 100;keeper b at 400;keeper c at 700;"
            + "key x at 300;key y at 800 sum;key z at 101;");
        CHECK.fine(x, "moved(300), at x itself", x.moved(300), 3);
        CHECK.fine(x, "moved(299), behind x", x.moved(299), 2);
        CHECK.fine(x, "moved(101)", x.moved(101), 2);
        CHECK.fine(x, "moved(401)", x.moved(401), 2);
        CHECK.fine(x, "moved(701)", x.moved(701), 0);
        CHECK.fine(x, "moved(999)", x.moved(999), 1);
        CHECK.fine(x, "moved(0)", x.moved(0), 1);
        CHECK.not(x, "moved(100)", x.moved(100), 7);
        CHECK.not(x, "moved(1000)", x.moved(1000), 1);
        CHECK.not(x, "moved(-1)", x.moved(-1), 1);
        CHECK.fine(x, "it does not stay", x.told(3), 3);
        x = Check.with("keeper a at 1;keeper b at 2;keeper c at 3;keeper d at 4;keeper e at 5;keeper f at 6;key x at 1;");
        CHECK.not(x, "moved(7) with six", x.moved(7), 4);
        CHECK.not(x, "moved(1) with six", x.moved(1), 4);
        CHECK.not(x, "moved(1000) with six", x.moved(1000), 1);
    }
}
