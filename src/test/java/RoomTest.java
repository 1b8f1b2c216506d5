import com.sun.management.ThreadMXBean;
import java.lang.management.ManagementFactory;
import java.util.Random;

/**
 * One room for a run: a new object is small and no call makes anything, whatever its numbers; and no call
 * throws, in any state.
 */
public final class RoomTest {
    private static final Check CHECK = new Check("RoomTest");
    private static final String SIX = "places 6 reads 3 writes 2;keeper a at 0;keeper b at 1;keeper c at 2;keeper d at 3;"
        + "keeper e at 4;keeper f at 5;key x at 0;key y at 3;key z at 5;key u at 9;key v at 7;key s at 1 sum;";
    private static final String DAYS = "loop 99;put x at a 1;put y at b 2;storm 7;get z at c;add s at a 3;part a b;"
        + "strike u at e;heal;hand;night a f;rise b;wipe d;when twins x at a > 3;get x at a;end;end;";
    private static final int[] ODD = {-1, 0, 1, 2, 3, 4, 5, 6, 7, 30, 31, 32, 33, 60, 61, 63, 64, 300, 900, 999, 1000, 1001,
        9999, 10000, Integer.MAX_VALUE, Integer.MIN_VALUE, -2, Integer.MAX_VALUE - 1};

    public static void main(String[] args) {
        neverThrows();
        room();
        CHECK.end();
    }

    private static long made() {
        return ((ThreadMXBean) ManagementFactory.getThreadMXBean()).getThreadAllocatedBytes(Thread.currentThread().getId());
    }

    private static void room() {
        long ahead = made();
        TwinShelf x = new TwinShelf();
        long size = made() - ahead;
        CHECK.due("a new object has " + size + " bytes", size < 200000, true);
        Check.shelf(x, SIX);
        Check.days(x, DAYS);
        Random draw = new Random(1);
        // once ahead of it, so that what the machine itself makes at first is made
        calls(x, draw, 2000);
        ahead = made();
        calls(x, draw, 2000);
        long more = made() - ahead;
        CHECK.due("2,000 calls make " + more + " bytes", more < 2000, true);
    }

    private static void neverThrows() {
        for (int seed = 0; seed < 300; seed++) {
            Random draw = new Random(seed);
            TwinShelf x = new TwinShelf();
            if (seed % 5 != 0) {
                Check.shelf(x, SIX.substring(26 * (seed & 1)));
                Check.days(x, DAYS);
            }
            try {
                calls(x, draw, 512);
            } catch (RuntimeException e) {
                CHECK.due("seed " + seed + " throws " + e, 1, 0);
            }
        }
    }

    private static void calls(TwinShelf x, Random draw, int many) {
        for (int i = 0; i < many; i++) {
            int kind = draw.nextInt(52);
            int a = ODD[draw.nextInt(draw.nextInt(4) == 0 ? ODD.length : 7)];
            int b = ODD[draw.nextInt(draw.nextInt(4) == 0 ? ODD.length : 7)];
            int c = ODD[draw.nextInt(draw.nextInt(4) == 0 ? ODD.length : 7)];
            int d = ODD[draw.nextInt(draw.nextInt(2) == 0 ? ODD.length : 7)];
            if (kind < 26) {
                first(x, kind, a, b, c, d);
            } else {
                second(x, kind, a, b, c, d);
            }
        }
    }

    private static void first(TwinShelf x, int kind, int a, int b, int c, int d) {
        switch (kind) {
            case 0 -> x.tray(a, b, c);
            case 1 -> x.write(a, b, c);
            case 2 -> x.read(a, b);
            case 3 -> x.pour(a, b, c, d, a ^ b);
            case 4 -> x.feed(a, b, c, d, 0);
            case 5 -> x.shelf(a > 0 ? -a : a == 0 && b == 1 && c == 2 ? 0 : 999);
            case 6 -> x.days(a > 0 ? a : 999);
            case 7 -> x.fault(a);
            case 8 -> x.told(a);
            case 9 -> x.row(a, b);
            case 10 -> x.places(a);
            case 11 -> x.reach(a, b);
            case 12, 13 -> x.put(a, b, d, c);
            case 14 -> x.strike(a, b, c);
            case 15 -> x.add(a, b, d);
            case 16 -> x.get(a, b, c);
            case 17 -> x.got(a);
            case 18 -> x.isDone();
            case 19 -> x.fall(a, (b & 3) == 0);
            case 20 -> x.wipe(a == 3 ? b : -1);
            case 21 -> x.part(a);
            case 22 -> x.hand();
            case 23 -> x.night(a, b);
            case 24 -> x.bury(a);
            default -> x.twins(a, b);
        }
    }

    private static void second(TwinShelf x, int kind, int a, int b, int c, int d) {
        switch (kind) {
            case 26 -> x.twin(a, b, c, d);
            case 27 -> x.seen(a, b, c);
            case 28 -> x.partOf(a, b, c);
            case 29 -> x.hints(a);
            case 30 -> x.ticket(a, b);
            case 31 -> x.like(a, b, c);
            case 32 -> x.alike();
            case 33 -> x.differ(a, b);
            case 34 -> x.root(a);
            case 35 -> x.fresh(a);
            case 36 -> x.late(a, b);
            case 37 -> x.load(a);
            case 38 -> x.moved(d);
            case 39 -> x.nights(a);
            case 40 -> x.safe(a, d);
            case 41 -> x.holders(a, d);
            case 42 -> x.lost(d);
            case 43 -> x.answers(a, b);
            case 44 -> x.odds(a, b, d);
            case 45 -> x.fewestFalls(a, b);
            case 46 -> x.live(d);
            case 47 -> x.lived(a);
            case 48 -> x.agreed(d, a);
            case 49 -> x.mark();
            case 50 -> x.back();
            default -> x.status();
        }
    }
}
