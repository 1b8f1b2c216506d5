import java.util.ArrayList;
import java.util.List;

/** All that can be asked of an object, as lines, so that two objects can be compared. */
final class Probe {
    private final TwinShelf x;
    private final List<String> lines = new ArrayList<>();

    private Probe(TwinShelf x) {
        this.x = x;
    }

    /** What the object tells without being changed, but for its STATUS. */
    static List<String> quiet(TwinShelf x) {
        Probe p = new Probe(x);
        p.loose();
        p.keptByMarks();
        return p.lines;
    }

    /** Of that, what a MARK keeps. */
    static List<String> kept(TwinShelf x) {
        Probe p = new Probe(x);
        p.keptByMarks();
        return p.lines;
    }

    /** What the object does from here on: DAYS, HINTS, counts of DOTS, MARKS, the tape. The object is used up by it. */
    static List<String> deep(TwinShelf x) {
        Probe p = new Probe(x);
        p.tape();
        p.live();
        p.handAll();
        p.putAll();
        p.marks();
        return p.lines;
    }

    private void line(String call, long answer) {
        lines.add(call + " -> " + answer + (answer == -1 ? " (" + x.status() + ")" : ""));
    }

    private void line(String call, boolean answer) {
        line(call, answer ? 1 : -1);
    }

    private void loose() {
        lines.add("top() -> " + x.top());
        lines.add("bottom() -> " + x.bottom());
        lines.add("fault(0) -> " + x.fault(0));
        lines.add("fault(1) -> " + x.fault(1));
        line("isDone()", x.isDone());
        long answer = 0;
        for (int k = 0; k < 40 && answer != -1; k++) {
            answer = x.got(k);
            line("got(" + k + ")", answer);
        }
        for (int what = 0; what < 6; what++) {
            line("lived(" + what + ")", x.lived(what));
        }
        for (int tray = 0; tray < 4; tray++) {
            int status = 0;
            for (int place = 0; place <= 60 && status == 0; place++) {
                answer = x.read(tray, place);
                status = x.status();
                lines.add("read(" + tray + ", " + place + ") -> " + answer + " (" + status + ")");
            }
        }
    }

    private void keptByMarks() {
        for (int what = 0; what < 8; what++) {
            line("told(" + what + ")", x.told(what));
        }
        int keepers = x.told(3);
        int keys = x.told(4);
        for (int key = 0; key < keys; key++) {
            line("places(" + key + ")", x.places(key));
            for (int k = 0; k < keepers; k++) {
                line("row(" + key + ", " + k + ")", x.row(key, k));
            }
            for (int keeper = 0; keeper < keepers; keeper++) {
                cell(keeper, key, keepers);
            }
        }
        for (int keeper = 0; keeper < keepers; keeper++) {
            line("hints(" + keeper + ")", x.hints(keeper));
        }
        for (int ticket = 0; ticket < 4; ticket++) {
            int key = x.ticket(ticket, -1);
            line("ticket(" + ticket + ", -1)", key);
            for (int of = 0; of < keepers && key >= 0; of++) {
                line("ticket(" + ticket + ", " + of + ")", x.ticket(ticket, of));
            }
        }
    }

    private void cell(int keeper, int key, int keepers) {
        int many = x.twins(keeper, key);
        String at = "(" + keeper + ", " + key + ", ";
        line("twins" + at + ")", many);
        for (int k = 0; k < Math.min(many, 5); k++) {
            for (int what = 0; what < 3; what++) {
                line("twin" + at + k + ", " + what + ")", x.twin(keeper, key, k, what));
            }
        }
        boolean isSum = x.partOf(keeper, key, keeper) != -1;
        for (int of = 0; of < keepers; of++) {
            line((isSum ? "partOf" : "seen") + at + of + ")", isSum ? x.partOf(keeper, key, of) : x.seen(keeper, key, of));
        }
    }

    private void roots() {
        for (int keeper = 0; keeper < x.told(3); keeper++) {
            line("root(" + keeper + ")", x.root(keeper));
        }
    }

    private void tape() {
        int many = x.feed(0x3b3b3b3b, 0x3b3b3b3b, 0x3b3b3b3b, 0x3b3b3b3b, 0x3b3b3b3b);
        lines.add("tape: feed() -> " + many);
        line("mark()", x.mark());
        boolean marked = x.status() == 0;
        // what is on the tape is told by where it is refused; a MARK more takes back what is taken
        lines.add("tape: shelf() -> " + x.shelf(Math.min(900, Math.max(many, 0))));
        lines.add("tape: fault(0) -> " + x.fault(0));
        lines.add("tape: fault(1) -> " + x.fault(1));
        if (marked) {
            line("back()", x.back());
        }
    }

    private void live() {
        line("live(7)", x.live(7));
        for (int what = 0; what < 6; what++) {
            line("lived(" + what + ")", x.lived(what));
        }
        line("told(5)", x.told(5));
        line("told(6)", x.told(6));
        line("told(7)", x.told(7));
        roots();
    }

    private void handAll() {
        line("part(0)", x.part(0));
        for (int keeper = 0; keeper < x.told(3); keeper++) {
            line("fall(" + keeper + ", false)", x.fall(keeper, false));
        }
        line("hand()", x.hand());
        roots();
    }

    private void putAll() {
        for (int key = 0; key < x.told(4); key++) {
            for (int keeper = 0; keeper < x.told(3); keeper++) {
                line("put(" + key + ", " + keeper + ", 1, -1)", x.put(key, keeper, 1, -1));
                line("seen(" + keeper + ", " + key + ", " + keeper + ")", x.seen(keeper, key, keeper));
            }
        }
    }

    private void marks() {
        int left = 1;
        for (int i = 0; i < 4 && left >= 0; i++) {
            left = x.back();
            line("back()", left);
            for (int what = 0; what < 8; what++) {
                line("told(" + what + ")", x.told(what));
            }
            for (int keeper = 0; keeper < x.told(3); keeper++) {
                line("hints(" + keeper + ")", x.hints(keeper));
            }
            roots();
        }
    }
}
