/** Promises 1 to 8: a new object, status, top, bottom, tray, write, read, pour. */
public final class TrayTest {
    private static final Check CHECK = new Check("TrayTest");

    public static void main(String[] args) {
        newObject();
        trays();
        cuts();
        writesAndReads();
        pours();
        pourRefusals();
        CHECK.end();
    }

    private static void newObject() {
        TwinShelf x = new TwinShelf();
        CHECK.due("status()", x.status(), 0);
        CHECK.due("top()", x.top(), 0);
        CHECK.due("bottom()", x.bottom(), 1);
        CHECK.due("fault(0)", x.fault(0), -1);
        CHECK.due("fault(1)", x.fault(1), -1);
        int[] told = {3, 1, 1, 0, 0, 0, 0, 0};
        for (int what = 0; what < told.length; what++) {
            CHECK.fine(x, "told(" + what + ")", x.told(what), told[what]);
        }
        CHECK.not(x, "back()", x.back(), 6);
        CHECK.not(x, "live(0)", x.live(0), 6);
        CHECK.not(x, "isDone()", x.isDone(), 6);
        CHECK.not(x, "ticket(0, -1)", x.ticket(0, -1), 6);
        for (int tray = 0; tray < 4; tray++) {
            CHECK.not(x, "read", x.read(tray, 0), 2);
        }
        CHECK.not(x, "shelf(1)", x.shelf(1), 1);
        CHECK.fine(x, "shelf(0)", x.shelf(0), 0);
        // status(), top(), bottom(), feed(), fault() leave the STATUS as it was.
        CHECK.not(x, "read(9, 0)", x.read(9, 0), 1);
        x.top();
        x.bottom();
        x.feed(1, 2, 3, 4, 5);
        x.fault(0);
        CHECK.due("status()", x.status(), 1);
        CHECK.due("status()", x.status(), 1);
    }

    private static void trays() {
        TwinShelf x = new TwinShelf();
        CHECK.fine(x, "tray(0, 0, 0)", x.tray(0, 0, 0));
        CHECK.fine(x, "tray(3, 3, 60)", x.tray(3, 3, 60));
        CHECK.fine(x, "read(3, 59)", x.read(3, 59), 0);
        CHECK.not(x, "tray(-1, 0, 0)", x.tray(-1, 0, 0), 1);
        CHECK.not(x, "tray(4, 0, 0)", x.tray(4, 0, 0), 1);
        CHECK.not(x, "tray(0, -1, 0)", x.tray(0, -1, 0), 1);
        CHECK.not(x, "tray(0, 4, 0)", x.tray(0, 4, 0), 1);
        CHECK.not(x, "tray(0, 0, -1)", x.tray(0, 0, -1), 1);
        CHECK.not(x, "tray(0, 0, 61)", x.tray(0, 0, 61), 1);
        x.write(3, 59, 7);
        CHECK.not(x, "tray(3, 3, 61)", x.tray(3, 3, 61), 1);
        CHECK.fine(x, "read(3, 59)", x.read(3, 59), 7);
        CHECK.fine(x, "tray(3, 3, 60) again", x.tray(3, 3, 60));
        CHECK.fine(x, "read(3, 59)", x.read(3, 59), 0);
    }

    private static void cuts() {
        TwinShelf x = new TwinShelf();
        long v = 0x89abcdef92a4b6c8L;
        long[] due = {(byte) v, (short) v, (int) v, v};
        for (int sort = 0; sort < 4; sort++) {
            x.tray(sort, sort, 2);
            CHECK.fine(x, "write", x.write(sort, 1, v));
            CHECK.fine(x, "read of sort " + sort, x.read(sort, 1), due[sort]);
            CHECK.fine(x, "read of its other place", x.read(sort, 0), 0);
            x.write(sort, 0, -1);
            CHECK.fine(x, "read of -1", x.read(sort, 0), -1);
        }
        x.write(0, 0, 128);
        CHECK.fine(x, "128 in 8 bits", x.read(0, 0), -128);
        x.write(0, 0, 127);
        CHECK.fine(x, "127 in 8 bits", x.read(0, 0), 127);
        x.write(1, 0, 65535);
        CHECK.fine(x, "65,535 in 16 bits", x.read(1, 0), -1);
    }

    private static void writesAndReads() {
        TwinShelf x = new TwinShelf();
        x.tray(1, 2, 3);
        CHECK.not(x, "write(4, 0, 1)", x.write(4, 0, 1), 1);
        CHECK.not(x, "write(-1, 0, 1)", x.write(-1, 0, 1), 1);
        CHECK.not(x, "write(0, 0, 1)", x.write(0, 0, 1), 2);
        CHECK.not(x, "write(0, -1, 1)", x.write(0, -1, 1), 2);
        CHECK.not(x, "write(1, 3, 1)", x.write(1, 3, 1), 3);
        CHECK.not(x, "write(1, -1, 1)", x.write(1, -1, 1), 3);
        CHECK.not(x, "write(1, max, 1)", x.write(1, Integer.MAX_VALUE, 1), 3);
        CHECK.not(x, "read(4, 0)", x.read(4, 0), 1);
        CHECK.not(x, "read(2, 0)", x.read(2, 0), 2);
        CHECK.not(x, "read(1, 3)", x.read(1, 3), 3);
        CHECK.not(x, "read(1, min)", x.read(1, Integer.MIN_VALUE), 3);
        x.tray(0, 0, 0);
        CHECK.not(x, "read(0, 0) of none", x.read(0, 0), 3);
    }

    private static void pours() {
        TwinShelf x = new TwinShelf();
        x.tray(0, 2, 6);
        x.tray(1, 2, 4);
        for (int i = 0; i < 6; i++) {
            x.write(0, i, 10 + i);
        }
        CHECK.fine(x, "pour(0, 2, 1, 1, 3)", x.pour(0, 2, 1, 1, 3));
        long[] first = {0, 12, 13, 14};
        for (int i = 0; i < 4; i++) {
            CHECK.fine(x, "read(1, " + i + ")", x.read(1, i), first[i]);
        }
        CHECK.fine(x, "pour on", x.pour(0, 0, 0, 1, 5));
        long[] on = {10, 10, 11, 12, 13, 14};
        for (int i = 0; i < 6; i++) {
            CHECK.fine(x, "read(0, " + i + ")", x.read(0, i), on[i]);
        }
        CHECK.fine(x, "pour back", x.pour(0, 2, 0, 0, 4));
        long[] back = {11, 12, 13, 14, 13, 14};
        for (int i = 0; i < 6; i++) {
            CHECK.fine(x, "read(0, " + i + ")", x.read(0, i), back[i]);
        }
        CHECK.fine(x, "pour of none", x.pour(0, 1, 1, 1, 0));
    }

    private static void pourRefusals() {
        TwinShelf x = new TwinShelf();
        x.tray(0, 2, 6);
        x.tray(1, 2, 4);
        x.tray(2, 1, 4);
        CHECK.not(x, "pour(-1, ..)", x.pour(-1, 0, 1, 0, 1), 1);
        CHECK.not(x, "pour(.., 4, ..)", x.pour(0, 0, 4, 0, 1), 1);
        CHECK.not(x, "place below 0", x.pour(0, -1, 1, 0, 1), 1);
        CHECK.not(x, "at below 0", x.pour(0, 0, 1, -1, 1), 1);
        CHECK.not(x, "many below 0", x.pour(0, 0, 1, 0, -1), 1);
        CHECK.not(x, "below 0, and missing", x.pour(3, -1, 1, 0, 1), 1);
        CHECK.not(x, "from missing", x.pour(3, 0, 1, 0, 1), 2);
        CHECK.not(x, "to missing", x.pour(1, 0, 3, 0, 1), 2);
        CHECK.not(x, "unlike sorts", x.pour(0, 0, 2, 0, 1), 8);
        CHECK.not(x, "unlike sorts ahead of places", x.pour(0, 60, 2, 0, 1), 8);
        CHECK.not(x, "too few there", x.pour(0, 0, 1, 0, 5), 3);
        CHECK.not(x, "too few here", x.pour(1, 0, 0, 0, 5), 3);
        CHECK.not(x, "too few from a place on", x.pour(0, 4, 1, 0, 3), 3);
        CHECK.not(x, "too few to a place on", x.pour(0, 0, 1, 3, 2), 3);
        CHECK.not(x, "far", x.pour(0, Integer.MAX_VALUE, 1, 0, Integer.MAX_VALUE), 3);
        CHECK.not(x, "far there", x.pour(0, 0, 1, Integer.MAX_VALUE, Integer.MAX_VALUE), 3);
        CHECK.not(x, "no such place", x.pour(0, 7, 1, 0, 0), 3);
    }
}
