import java.util.Random;

/** All promises but the trays': runs of drawn calls, each answered by TwinShelf and by PlainShelf alike. */
public final class ModelTest {
    private static final int RUNS = 1500;
    private static final int CALLS = 250;
    private static final Check CHECK = new Check("ModelTest");
    private static final String[] NAMES = {"a", "b", "c", "d", "e", "f", "u", "v", "w", "x", "y", "z"};

    private final Random draw;
    private final TwinShelf real = new TwinShelf();
    private final PlainShelf plain = new PlainShelf();
    private final StringBuilder log = new StringBuilder();
    /** Of how many calls that make keepers like one another one is left: the more, the more they differ. */
    private final int calm;
    private boolean wrong = false;

    private ModelTest(long seed) {
        draw = new Random(seed);
        calm = 1 + draw.nextInt(8);
    }

    public static void main(String[] args) {
        long first = args.length > 0 ? Long.parseLong(args[0]) : 0;
        int runs = args.length > 1 ? Integer.parseInt(args[1]) : RUNS;
        for (long seed = first; seed < first + runs; seed++) {
            ModelTest run = new ModelTest(seed);
            run.go();
            if (run.wrong) {
                System.out.println("seed " + seed + ":\n" + run.log);
                break;
            }
        }
        CHECK.end();
    }

    private void go() {
        // Some runs have the empty shelf of a new object; most have one that is taken.
        for (int i = 0; i < 9 && plain.all.keys() == 0 && !now(20); i++) {
            shelf(shelfText());
        }
        for (int i = 0; i < CALLS && !wrong; i++) {
            call();
        }
    }

    private void same(String call, long got, long want) {
        log.append(call).append(" -> ").append(got).append('\n');
        CHECK.due(call, got, want);
        CHECK.due("status behind " + call, real.status(), plain.status);
        CHECK.due("top behind " + call, real.top(), plain.top);
        CHECK.due("bottom behind " + call, real.bottom(), plain.bottom);
        wrong = got != want || real.status() != plain.status || real.top() != plain.top || real.bottom() != plain.bottom;
    }

    private void same(String call, boolean got, boolean want) {
        same(call, got ? 1 : 0, want ? 1 : 0);
    }

    private boolean now(int of) {
        return draw.nextInt(of) == 0;
    }

    private int some(int many) {
        if (now(60)) {
            int[] odd = {-1, many, many + 1, -2, Integer.MIN_VALUE, Integer.MAX_VALUE, 6, 31, 32, 64};
            return odd[draw.nextInt(odd.length)];
        }
        return many <= 0 ? 0 : draw.nextInt(many);
    }

    private int keeper() {
        return some(plain.all.keepers());
    }

    private int key() {
        return some(plain.all.keys());
    }

    /** A place of the key more often than not. */
    private int placeOf(int key) {
        if (key >= 0 && key < plain.all.keys() && plain.all.keepers() > 0 && !now(6)) {
            return plain.all.places(key).get(draw.nextInt(plain.all.places(key).size()));
        }
        return keeper();
    }

    private int value() {
        return now(40) ? some(1001) : now(10) ? 1000 : draw.nextInt(6);
    }

    private int ticket() {
        return now(2) ? -1 : now(20) ? some(4) : draw.nextInt(2);
    }

    private int set() {
        int set = some(1 << plain.all.keepers());
        return now(3) ? set & draw.nextInt(64) : set;
    }

    private void call() {
        int kind = draw.nextInt(100);
        if (kind < 45) {
            change();
        } else if (kind < 70) {
            ask();
        } else if (kind < 85) {
            askMore();
        } else if (kind < 92) {
            texts();
        } else {
            lifeAndMarks();
        }
    }

    /** Each place puts for itself, so that all differ. */
    private void clash() {
        int key = key();
        if (key < 0 || key >= plain.all.keys()) {
            return;
        }
        for (int place : plain.all.places(key)) {
            if (now(4)) {
                continue;
            }
            same("part", real.part(1 << place), plain.part(1 << place));
            same("fall", real.fall(place, false), plain.fall(place, false));
            int value = value();
            int ticket = ticket();
            same("put(" + key + ", " + place + ", " + value + ", " + ticket + ")", real.put(key, place, value, ticket),
                plain.put(key, place, value, ticket));
            same("add(" + key + ", " + place + ", 5)", real.add(key, place, 5), plain.add(key, place, 5));
        }
        same("part(0)", real.part(0), plain.part(0));
        for (int i = 0; i < 6; i++) {
            same("fall", real.fall(i, false), plain.fall(i, false));
        }
    }

    private void change() {
        if (now(30)) {
            clash();
            return;
        }
        int key = key();
        int keeper = placeOf(key);
        int ticket = ticket();
        int value = value();
        int other = keeper();
        switch (draw.nextInt(16)) {
            case 0, 1, 2 -> same("put(" + key + ", " + keeper + ", " + value + ", " + ticket + ")",
                real.put(key, keeper, value, ticket), plain.put(key, keeper, value, ticket));
            case 3 -> same("strike(" + key + ", " + keeper + ", " + ticket + ")",
                real.strike(key, keeper, ticket), plain.strike(key, keeper, ticket));
            case 4, 5 -> same("add(" + key + ", " + keeper + ", " + value + ")",
                real.add(key, keeper, value), plain.add(key, keeper, value));
            case 6, 7 -> {
                if (now(calm)) {
                    same("get(" + key + ", " + other + ", " + ticket + ")", real.get(key, other, ticket),
                        plain.get(key, other, ticket));
                }
            }
            case 8 -> {
                if (now(1 + calm / 2)) {
                    same("fall(" + other + ", true)", real.fall(other, true), plain.fall(other, true));
                }
            }
            case 9, 10 -> same("fall(" + other + ", false)", real.fall(other, false), plain.fall(other, false));
            case 11 -> {
                if (now(4)) {
                    same("wipe(" + other + ")", real.wipe(other), plain.wipe(other));
                }
            }
            case 12 -> {
                int set = now(3) ? 0 : set();
                same("part(" + set + ")", real.part(set), plain.part(set));
            }
            case 13 -> {
                if (now(calm)) {
                    same("hand()", real.hand(), plain.hand());
                }
            }
            case 14 -> {
                if (now(calm)) {
                    same("night(" + keeper + ", " + other + ")", real.night(keeper, other), plain.night(keeper, other));
                }
            }
            default -> same("bury(" + key + ")", real.bury(key), plain.bury(key));
        }
    }

    private void ask() {
        int key = key();
        int keeper = placeOf(key);
        int of = keeper();
        int k = some(5);
        int what = some(9);
        switch (draw.nextInt(22)) {
            case 0 -> same("told(" + what + ")", real.told(what), plain.told(what));
            case 1 -> same("row(" + key + ", " + k + ")", real.row(key, k), plain.row(key, k));
            case 2 -> same("places(" + key + ")", real.places(key), plain.places(key));
            case 3 -> same("reach(" + keeper + ", " + of + ")", real.reach(keeper, of), plain.reach(keeper, of));
            case 4 -> same("got(" + k + ")", real.got(k), plain.got(k));
            case 5 -> same("isDone()", real.isDone(), plain.isDone());
            case 6 -> same("twins(" + keeper + ", " + key + ")", real.twins(keeper, key), plain.twins(keeper, key));
            case 7, 8 -> {
                int which = some(3);
                same("twin(" + keeper + ", " + key + ", " + k + ", " + which + ")", real.twin(keeper, key, k, which),
                    plain.twin(keeper, key, k, which));
            }
            case 9 -> same("seen(" + keeper + ", " + key + ", " + of + ")", real.seen(keeper, key, of),
                plain.seen(keeper, key, of));
            case 10 -> same("partOf(" + keeper + ", " + key + ", " + of + ")", real.partOf(keeper, key, of),
                plain.partOf(keeper, key, of));
            case 11 -> same("hints(" + of + ")", real.hints(of), plain.hints(of));
            case 12 -> {
                int ticket = ticket();
                int whose = now(4) ? -1 : of;
                same("ticket(" + ticket + ", " + whose + ")", real.ticket(ticket, whose), plain.ticket(ticket, whose));
            }
            case 13 -> same("like(" + keeper + ", " + of + ", " + key + ")", real.like(keeper, of, key),
                plain.like(keeper, of, key));
            case 14 -> same("alike()", real.alike(), plain.alike());
            case 15 -> same("differ(" + keeper + ", " + of + ")", real.differ(keeper, of), plain.differ(keeper, of));
            case 16, 17 -> same("root(" + of + ")", real.root(of), plain.root(of));
            case 18 -> same("fresh(" + key + ")", real.fresh(key), plain.fresh(key));
            case 19 -> same("late(" + of + ", " + key + ")", real.late(of, key), plain.late(of, key));
            case 20 -> same("load(" + of + ")", real.load(of), plain.load(of));
            default -> {
                int at = some(1000);
                same("moved(" + at + ")", real.moved(at), plain.moved(at));
            }
        }
    }

    private void askMore() {
        int key = key();
        int keeper = keeper();
        int value = value();
        switch (draw.nextInt(7)) {
            case 0 -> {
                if (plain.all.n < 5 || now(8)) {
                    same("nights(" + key + ")", real.nights(key), plain.nights(key));
                }
            }
            case 1 -> same("safe(" + key + ", " + value + ")", real.safe(key, value), plain.safe(key, value));
            case 2 -> same("holders(" + key + ", " + value + ")", real.holders(key, value), plain.holders(key, value));
            case 3 -> {
                int set = set();
                same("lost(" + set + ")", real.lost(set), plain.lost(set));
            }
            case 4 -> same("answers(" + key + ", " + keeper + ")", real.answers(key, keeper), plain.answers(key, keeper));
            case 5 -> same("odds(" + key + ", " + keeper + ", " + value + ")", real.odds(key, keeper, value),
                plain.odds(key, keeper, value));
            default -> same("fewestFalls(" + key + ", " + keeper + ")", real.fewestFalls(key, keeper),
                plain.fewestFalls(key, keeper));
        }
    }

    private void lifeAndMarks() {
        int seed = now(30) ? some(10000) : draw.nextInt(10000);
        int what = some(6);
        switch (draw.nextInt(8)) {
            case 0, 1 -> {
                same("live(" + seed + ")", real.live(seed), plain.live(seed));
                for (int i = 0; i < 6; i++) {
                    same("lived(" + i + ")", real.lived(i), plain.lived(i));
                }
            }
            case 2, 3 -> same("lived(" + what + ")", real.lived(what), plain.lived(what));
            case 4 -> {
                int many = now(20) ? some(22) : 1 + draw.nextInt(20);
                int from = now(10) ? 9990 : seed;
                same("agreed(" + from + ", " + many + ")", real.agreed(from, many), plain.agreed(from, many));
            }
            case 5, 6 -> same("mark()", real.mark(), plain.mark());
            default -> same("back()", real.back(), plain.back());
        }
    }

    private void texts() {
        if (now(40)) {
            shelf(shelfText());
        } else {
            days(daysText());
        }
        same("fault(0)", real.fault(0), plain.faultKind);
        same("fault(1)", real.fault(1), plain.faultPlace);
    }

    private void shelf(String text) {
        same("shelf " + text, Check.shelf(real, text), plain.shelf(text));
    }

    private void days(String text) {
        same("days " + text, Check.days(real, text), plain.days(text));
    }

    private String blank() {
        return now(8) ? (now(2) ? "\n" : "  ") : " ";
    }

    private String shelfText() {
        StringBuilder text = new StringBuilder();
        int keepers = now(10) ? draw.nextInt(8) : 3 + draw.nextInt(4);
        int keys = now(10) ? draw.nextInt(8) : 1 + draw.nextInt(1 + draw.nextInt(5));
        if (!now(8)) {
            int n = 1 + draw.nextInt(6);
            n = n > keepers && keepers > 0 && !now(4) ? keepers : n;
            text.append("places ").append(n).append(blank()).append("reads ").append(1 + draw.nextInt(n)).append(blank())
                .append("writes ").append(1 + draw.nextInt(n)).append(";");
        }
        int name = 0;
        for (int i = 0; i < keepers; i++) {
            text.append("keeper ").append(NAMES[name++ % 12]).append(blank()).append("at ").append(draw.nextInt(1000))
                .append(';');
        }
        for (int i = 0; i < keys; i++) {
            text.append("key ").append(NAMES[name++ % 12]).append(blank()).append("at ").append(draw.nextInt(1000))
                .append(now(3) ? " sum" : "").append(';').append(now(9) ? blank() : "");
        }
        return spoilt(text, 900);
    }

    private String nameOf(java.util.List<String> names) {
        return names.isEmpty() || now(200) ? NAMES[draw.nextInt(12)] : names.get(draw.nextInt(names.size()));
    }

    private String daysText() {
        StringBuilder text = new StringBuilder();
        int wanted = now(12) ? 31 : draw.nextInt(14);
        int open = 0;
        for (int i = 0; i < wanted && text.length() < 270; i++) {
            open += step(text);
            if (open > 0 && now(3)) {
                text.append("end;");
                open--;
            }
        }
        for (int i = 0; i < open; i++) {
            text.append("end;");
        }
        return spoilt(text, 300);
    }

    /** How many more are open behind it. */
    private int step(StringBuilder text) {
        String keeper = nameOf(plain.all.keeperNames);
        String other = nameOf(plain.all.keeperNames);
        String key = nameOf(plain.all.keyNames);
        boolean sum = plain.all.keyNames.contains(key) && plain.all.sums.get(plain.all.keyNames.indexOf(key));
        switch (draw.nextInt(17)) {
            case 0, 1, 2 -> text.append(sum ? "add " : "put ").append(key).append(" at ").append(keeper).append(' ')
                .append(1 + draw.nextInt(9)).append(';');
            case 3 -> text.append(sum ? "get " : "strike ").append(key).append(" at ").append(keeper).append(';');
            case 4, 5 -> text.append("get ").append(key).append(" at ").append(keeper).append(';');
            case 6 -> text.append("fall ").append(keeper).append(';');
            case 7 -> text.append("rise ").append(keeper).append(';');
            case 8 -> text.append(now(3) ? "wipe " : "rise ").append(keeper).append(';');
            case 9 -> text.append("part ").append(keeper).append(now(2) && !other.equals(keeper) ? " " + other : "").append(';');
            case 10 -> text.append("heal;");
            case 11 -> text.append("hand;");
            case 12 -> text.append("night ").append(keeper).append(' ').append(other).append(';');
            case 13 -> text.append("storm ").append(draw.nextInt(17)).append(';');
            case 14 -> {
                String[] tests = {"alike " + key, "up " + keeper,
                    "twins " + key + " at " + keeper + "<>=".charAt(draw.nextInt(3)) + draw.nextInt(4)};
                text.append("when ").append(tests[draw.nextInt(3)]).append(';');
                return 1;
            }
            case 15 -> {
                text.append("loop ").append(now(3) ? 1 + draw.nextInt(99) : 1 + draw.nextInt(4)).append(';');
                return 1;
            }
            default -> text.append(now(5) ? "stop;" : "hand;");
        }
        return 0;
    }

    /** Now and then a sign of a text is struck, or another one put there, or the text is cut. */
    private String spoilt(StringBuilder text, int most) {
        if (now(3) && text.length() > 0) {
            int at = draw.nextInt(text.length());
            String signs = "abkpstz0123456789;;<>= \n?A" + (char) 200;
            switch (draw.nextInt(4)) {
                case 0 -> text.deleteCharAt(at);
                case 1 -> text.setCharAt(at, signs.charAt(draw.nextInt(signs.length())));
                case 2 -> text.insert(at, signs.charAt(draw.nextInt(signs.length())));
                default -> text.setLength(at);
            }
        }
        if (text.length() > most) {
            text.setLength(most);
        }
        return text.toString();
    }
}
