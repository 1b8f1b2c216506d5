import java.util.ArrayList;
import java.util.Arrays;
import java.util.HashSet;
import java.util.List;
import java.util.Map;
import java.util.Set;
import java.util.TreeMap;

/**
 * The document once more, written down as plainly as can be with the Java library, for comparison: twins in maps,
 * days as a tree, nights tried one by one. It has no TRAYS and takes texts as Strings.
 */
final class PlainShelf {
    private static final Set<String> OWN = Set.of("places", "reads", "writes", "keeper", "at", "key", "sum", "put",
        "strike", "add", "get", "fall", "rise", "wipe", "part", "heal", "hand", "night", "storm", "when", "alike", "up",
        "twins", "loop", "end", "stop");

    record Dot(int keeper, int count) implements Comparable<Dot> {
        @Override
        public int compareTo(Dot o) {
            return keeper != o.keeper ? keeper - o.keeper : count - o.count;
        }
    }

    record HintFor(int watcher, int keeper, int key) implements Comparable<HintFor> {
        @Override
        public int compareTo(HintFor o) {
            if (watcher != o.watcher) {
                return watcher - o.watcher;
            }
            return keeper != o.keeper ? keeper - o.keeper : key - o.key;
        }
    }

    static final class Had {
        final TreeMap<Dot, Integer> twins = new TreeMap<>();
        final int[] seen = new int[6];
        final int[] parts = new int[6];

        Had copy() {
            Had c = new Had();
            c.twins.putAll(twins);
            System.arraycopy(seen, 0, c.seen, 0, 6);
            System.arraycopy(parts, 0, c.parts, 0, 6);
            return c;
        }

        static Had join(Had a, Had b) {
            Had c = new Had();
            for (int i = 0; i < 6; i++) {
                c.seen[i] = Math.max(a.seen[i], b.seen[i]);
                c.parts[i] = Math.max(a.parts[i], b.parts[i]);
            }
            a.keepInto(c, b);
            b.keepInto(c, a);
            return c;
        }

        private void keepInto(Had c, Had other) {
            for (Map.Entry<Dot, Integer> e : twins.entrySet()) {
                Dot dot = e.getKey();
                if (other.twins.containsKey(dot) || dot.count > other.seen[dot.keeper]) {
                    c.twins.put(dot, e.getValue());
                }
            }
        }

        boolean like(Had b) {
            return twins.equals(b.twins) && Arrays.equals(seen, b.seen) && Arrays.equals(parts, b.parts);
        }

        int sum() {
            return Arrays.stream(parts).sum();
        }
    }

    record Ticket(int key, int[] seen) {
    }

    record Step(String word, int key, int keeper, int other, int number, int set, String sign, List<Step> inner) {
    }

    /** All that a MARK keeps. */
    static final class All {
        int n = 3;
        int r = 1;
        int w = 1;
        List<String> keeperNames = new ArrayList<>();
        List<Integer> keeperAts = new ArrayList<>();
        List<String> keyNames = new ArrayList<>();
        List<Integer> keyAts = new ArrayList<>();
        List<Boolean> sums = new ArrayList<>();
        Had[][] had = new Had[6][6];
        int[][] gave = new int[6][6];
        TreeMap<HintFor, Had> hints = new TreeMap<>();
        Ticket[] tickets = new Ticket[4];
        boolean[] up = new boolean[6];
        int parted = 0;
        List<Step> days = null;

        All() {
            for (Had[] row : had) {
                for (int i = 0; i < 6; i++) {
                    row[i] = new Had();
                }
            }
            Arrays.fill(up, true);
        }

        All copy() {
            All c = new All();
            c.n = n;
            c.r = r;
            c.w = w;
            c.keeperNames = keeperNames;
            c.keeperAts = keeperAts;
            c.keyNames = keyNames;
            c.keyAts = keyAts;
            c.sums = sums;
            for (int i = 0; i < 6; i++) {
                for (int j = 0; j < 6; j++) {
                    c.had[i][j] = had[i][j].copy();
                    c.gave[i][j] = gave[i][j];
                }
            }
            for (Map.Entry<HintFor, Had> e : hints.entrySet()) {
                c.hints.put(e.getKey(), e.getValue().copy());
            }
            c.tickets = tickets.clone();
            c.up = up.clone();
            c.parted = parted;
            c.days = days;
            return c;
        }

        int keepers() {
            return keeperNames.size();
        }

        int keys() {
            return keyNames.size();
        }

        List<Integer> row(int key) {
            List<Integer> row = new ArrayList<>();
            for (int step = 0; step < 1000; step++) {
                int at = (keyAts.get(key) + step) % 1000;
                if (keeperAts.contains(at)) {
                    row.add(keeperAts.indexOf(at));
                }
            }
            return row;
        }

        List<Integer> places(int key) {
            List<Integer> row = row(key);
            return row.subList(0, Math.min(n, row.size()));
        }

        List<Integer> watch(int key) {
            List<Integer> row = row(key);
            return row.subList(Math.min(n, row.size()), row.size());
        }

        boolean reach(int a, int b) {
            return up[a] && up[b] && ((parted & 1 << a) != 0) == ((parted & 1 << b) != 0);
        }

        boolean alike(int key) {
            for (int a : places(key)) {
                for (int b : places(key)) {
                    if (!had[a][key].like(had[b][key])) {
                        return false;
                    }
                }
            }
            return true;
        }

        /** TOLD, or -1 if it can't be. */
        int put(int key, int keeper, int value, int ticket) {
            if (sums.get(key) || (ticket >= 0 && tickets[ticket].key != key) || !places(key).contains(keeper)
                || !up[keeper] || gave[keeper][key] == 30) {
                return -1;
            }
            Had mine = had[keeper][key];
            if (ticket >= 0) {
                int[] seen = tickets[ticket].seen;
                mine.twins.keySet().removeIf(dot -> dot.count <= seen[dot.keeper]);
                for (int i = 0; i < 6; i++) {
                    mine.seen[i] = Math.max(mine.seen[i], seen[i]);
                }
            }
            gave[keeper][key]++;
            mine.twins.put(new Dot(keeper, gave[keeper][key]), value);
            mine.seen[keeper] = gave[keeper][key];
            return give(key, keeper);
        }

        int add(int key, int keeper, int more) {
            if (!sums.get(key) || !places(key).contains(keeper) || !up[keeper]) {
                return -1;
            }
            had[keeper][key].parts[keeper] += more;
            return give(key, keeper);
        }

        private int give(int key, int keeper) {
            Had given = had[keeper][key];
            int told = 1;
            List<Integer> missing = new ArrayList<>();
            for (int place : places(key)) {
                if (place != keeper && reach(keeper, place)) {
                    had[place][key] = Had.join(had[place][key], given);
                    told++;
                } else if (place != keeper) {
                    missing.add(place);
                }
            }
            List<Integer> helpers = new ArrayList<>(watch(key));
            helpers.removeIf(watcher -> !reach(keeper, watcher));
            for (int i = 0; i < Math.min(missing.size(), helpers.size()); i++) {
                HintFor hint = new HintFor(helpers.get(i), missing.get(i), key);
                hints.put(hint, Had.join(hints.getOrDefault(hint, new Had()), given));
                told++;
            }
            return told;
        }

        List<Integer> reached(int key, int keeper) {
            List<Integer> all = new ArrayList<>(places(key));
            all.removeIf(place -> !reach(keeper, place));
            return all;
        }

        /** What is told, or null if it can't be. */
        Had get(int key, int keeper, int ticket) {
            List<Integer> asked = reached(key, keeper);
            if (!up[keeper] || asked.size() < r) {
                return null;
            }
            asked = asked.subList(0, r);
            Had told = new Had();
            for (int place : asked) {
                told = Had.join(told, had[place][key]);
            }
            for (int place : asked) {
                had[place][key] = told.copy();
            }
            if (ticket >= 0 && !sums.get(key)) {
                tickets[ticket] = new Ticket(key, told.seen.clone());
            }
            return told;
        }

        void wipe(int keeper) {
            for (int key = 0; key < 6; key++) {
                had[keeper][key] = new Had();
            }
            hints.keySet().removeIf(hint -> hint.watcher == keeper);
        }

        int hand() {
            int many = 0;
            for (HintFor hint : new ArrayList<>(hints.keySet())) {
                if (reach(hint.watcher, hint.keeper)) {
                    had[hint.keeper][hint.key] = Had.join(had[hint.keeper][hint.key], hints.remove(hint));
                    many++;
                }
            }
            return many;
        }

        int night(int a, int b) {
            int unlike = 0;
            for (int key = 0; key < keys(); key++) {
                if (places(key).contains(a) && places(key).contains(b)) {
                    unlike += had[a][key].like(had[b][key]) ? 0 : 1;
                    Had both = Had.join(had[a][key], had[b][key]);
                    had[a][key] = both;
                    had[b][key] = both.copy();
                }
            }
            return unlike;
        }

        Had all(int key) {
            Had all = new Had();
            for (int keeper = 0; keeper < keepers(); keeper++) {
                all = Had.join(all, had[keeper][key]);
            }
            return all;
        }

        int holders(int key, int value) {
            int set = 0;
            for (int keeper = 0; keeper < keepers(); keeper++) {
                boolean has = had[keeper][key].twins.containsValue(value);
                for (Map.Entry<HintFor, Had> e : hints.entrySet()) {
                    has |= e.getKey().watcher == keeper && e.getKey().key == key && e.getValue().twins.containsValue(value);
                }
                set |= has ? 1 << keeper : 0;
            }
            return set;
        }
    }

    static final class Fault extends RuntimeException {
        private static final long serialVersionUID = 1;
        final int kind;
        final int place;

        Fault(int kind, int place) {
            this.kind = kind;
            this.place = place;
        }
    }

    record Token(char sort, String text, int place) {
    }

    /** Tokens one by one; a fault is thrown. */
    static final class Text {
        private final String text;
        private int next = 0;
        Token now;

        Text(String text) {
            this.text = text;
        }

        Token step() {
            while (next < text.length() && (text.charAt(next) == ' ' || text.charAt(next) == '\n')) {
                next++;
            }
            String rest = text.substring(next);
            int place = next;
            String word = rest.replaceAll("(?s)^([a-z]*).*$", "$1");
            String digits = rest.replaceAll("(?s)^([0-9]*).*$", "$1");
            if (rest.isEmpty()) {
                now = new Token('e', "", place);
            } else if (!word.isEmpty()) {
                now = new Token('w', word, place);
            } else if (!digits.isEmpty() && digits.length() <= 4) {
                now = new Token('n', digits, place);
            } else if (";<>=".indexOf(rest.charAt(0)) >= 0) {
                now = new Token('s', rest.substring(0, 1), place);
            } else {
                throw new Fault(1, place);
            }
            next += now.text.length();
            return now;
        }

        Token want(String wanted) {
            if (!step().text.equals(wanted)) {
                throw new Fault(2, now.place);
            }
            return now;
        }

        int number(int least, int most) {
            if (step().sort != 'n') {
                throw new Fault(2, now.place);
            }
            int v = Integer.parseInt(now.text);
            if (v < least || v > most) {
                throw new Fault(4, now.place);
            }
            return v;
        }

        String nameNow() {
            if (now.sort != 'w' || now.text.length() > 8 || OWN.contains(now.text)) {
                throw new Fault(2, now.place);
            }
            return now.text;
        }

        String name() {
            step();
            return nameNow();
        }
    }

    private static All readShelf(String source) {
        Text t = new Text(source);
        All a = new All();
        boolean told = false;
        while (t.step().sort != 'e') {
            int place = t.now.place;
            switch (t.now.text) {
                case "places" -> {
                    if (told) {
                        throw new Fault(5, place);
                    }
                    told = true;
                    a.n = t.number(1, 6);
                    t.want("reads");
                    a.r = t.number(1, a.n);
                    t.want("writes");
                    a.w = t.number(1, a.n);
                    t.want(";");
                }
                case "keeper" -> {
                    if (a.keepers() == 6) {
                        throw new Fault(6, place);
                    }
                    String name = newName(t, a);
                    t.want("at");
                    int at = t.number(0, 999);
                    if (a.keeperAts.contains(at)) {
                        throw new Fault(5, t.now.place);
                    }
                    a.keeperNames.add(name);
                    a.keeperAts.add(at);
                    t.want(";");
                }
                case "key" -> {
                    if (a.keys() == 6) {
                        throw new Fault(6, place);
                    }
                    a.keyNames.add(newName(t, a));
                    t.want("at");
                    a.keyAts.add(t.number(0, 999));
                    t.step();
                    a.sums.add(t.now.text.equals("sum"));
                    if (t.now.text.equals("sum")) {
                        t.step();
                    }
                    if (!t.now.text.equals(";")) {
                        throw new Fault(2, t.now.place);
                    }
                }
                default -> throw new Fault(2, place);
            }
        }
        return a;
    }

    private static String newName(Text t, All a) {
        String name = t.name();
        if (a.keeperNames.contains(name) || a.keyNames.contains(name)) {
            throw new Fault(3, t.now.place);
        }
        return name;
    }

    private int steps;

    private static int known(Text t, List<String> names) {
        int found = names.indexOf(t.nameNow());
        if (found < 0) {
            throw new Fault(3, t.now.place);
        }
        return found;
    }

    private int key(Text t, int sum) {
        t.step();
        int key = known(t, all.keyNames);
        if (sum >= 0 && all.sums.get(key) != (sum == 1)) {
            throw new Fault(5, t.now.place);
        }
        return key;
    }

    private int keeper(Text t) {
        t.step();
        return known(t, all.keeperNames);
    }

    private int atKeeper(Text t) {
        t.want("at");
        return keeper(t);
    }

    private List<Step> readSteps(Text t, int depth) {
        List<Step> list = new ArrayList<>();
        while (true) {
            t.step();
            int place = t.now.place;
            String word = t.now.text;
            if (t.now.sort == 'e' && depth == 0) {
                return list;
            }
            if (word.equals("end") && depth > 0) {
                t.want(";");
                return list;
            }
            if (!Set.of("put", "strike", "add", "get", "fall", "rise", "wipe", "part", "heal", "hand", "night", "storm",
                "when", "loop", "stop").contains(word)) {
                throw new Fault(2, place);
            }
            if (steps == 30) {
                throw new Fault(6, place);
            }
            if ((word.equals("when") || word.equals("loop")) && depth == 3) {
                throw new Fault(7, place);
            }
            steps++;
            list.add(readStep(t, word, depth));
        }
    }

    private Step readStep(Text t, String word, int depth) {
        int key = -1;
        int keeper = -1;
        int other = -1;
        int number = -1;
        int set = 0;
        String sign = "";
        List<Step> inner = null;
        String kind = word;
        switch (word) {
            case "put", "strike", "add", "get" -> {
                key = key(t, word.equals("get") ? -1 : word.equals("add") ? 1 : 0);
                keeper = atKeeper(t);
                if (word.equals("put") || word.equals("add")) {
                    number = t.number(word.equals("put") ? 0 : 1, 999);
                }
                t.want(";");
            }
            case "fall", "rise", "wipe" -> {
                keeper = keeper(t);
                t.want(";");
            }
            case "part" -> {
                set = 1 << keeper(t);
                while (!t.step().text.equals(";")) {
                    int one = 1 << known(t, all.keeperNames);
                    if ((set & one) != 0) {
                        throw new Fault(5, t.now.place);
                    }
                    set |= one;
                }
            }
            case "night" -> {
                keeper = keeper(t);
                other = keeper(t);
                t.want(";");
            }
            case "storm" -> {
                number = t.number(0, 16);
                t.want(";");
            }
            case "loop" -> {
                number = t.number(1, 99);
                t.want(";");
                inner = readSteps(t, depth + 1);
            }
            case "when" -> {
                kind = t.step().text;
                switch (kind) {
                    case "alike" -> key = key(t, -1);
                    case "up" -> keeper = keeper(t);
                    case "twins" -> {
                        key = key(t, -1);
                        keeper = atKeeper(t);
                        sign = t.step().text;
                        if (!Set.of("<", ">", "=").contains(sign)) {
                            throw new Fault(2, t.now.place);
                        }
                        number = t.number(0, 99);
                    }
                    default -> throw new Fault(2, t.now.place);
                }
                t.want(";");
                inner = readSteps(t, depth + 1);
            }
            default -> t.want(";");
        }
        return new Step(kind, key, keeper, other, number, set, sign, inner);
    }

    /** Thrown where the days end early. */
    static final class Over extends RuntimeException {
        private static final long serialVersionUID = 1;
    }

    /** One life of the days. */
    static final class Lived {
        final int[] counts = new int[6];
        int steps = 0;
        int s;
        final All a;

        Lived(All a, int seed) {
            this.a = a;
            this.s = seed;
            try {
                all(a.days);
            } catch (Over over) {
                // a stop, or the 300 are done
            }
        }

        private void all(List<Step> list) {
            for (Step step : list) {
                if (steps == 300) {
                    counts[5] = 1;
                    throw new Over();
                }
                steps++;
                one(step);
            }
        }

        private void told(int told) {
            counts[told < 0 ? 0 : told >= a.w ? 1 : 2]++;
        }

        private void one(Step t) {
            int ticket = a.tickets[0] != null && a.tickets[0].key == t.key ? 0 : -1;
            switch (t.word) {
                case "put" -> told(a.put(t.key, t.keeper, t.number, ticket));
                case "strike" -> told(a.put(t.key, t.keeper, 1000, ticket));
                case "add" -> told(a.add(t.key, t.keeper, t.number));
                case "get" -> counts[a.get(t.key, t.keeper, 0) == null ? 0 : 3]++;
                case "fall" -> a.up[t.keeper] = false;
                case "rise" -> a.up[t.keeper] = true;
                case "wipe" -> a.wipe(t.keeper);
                case "part" -> a.parted = t.set;
                case "heal" -> a.parted = 0;
                case "hand" -> counts[4] += a.hand();
                case "night" -> {
                    if (t.keeper != t.other && a.reach(t.keeper, t.other)) {
                        a.night(t.keeper, t.other);
                    } else {
                        counts[0]++;
                    }
                }
                case "storm" -> {
                    for (int keeper = 0; keeper < a.keepers(); keeper++) {
                        s = Math.floorMod(s * 2801 + 12413, 65536);
                        a.up[keeper] = Math.floorDiv(s, 8) % 16 >= t.number;
                    }
                }
                case "stop" -> throw new Over();
                case "loop" -> {
                    for (int i = 0; i < t.number; i++) {
                        all(t.inner);
                    }
                }
                default -> {
                    if (holds(t)) {
                        all(t.inner);
                    }
                }
            }
        }

        private boolean holds(Step t) {
            if (t.word.equals("alike")) {
                return a.alike(t.key);
            }
            if (t.word.equals("up")) {
                return a.up[t.keeper];
            }
            int many = a.had[t.keeper][t.key].twins.size();
            return t.sign.equals("<") ? many < t.number : t.sign.equals(">") ? many > t.number : many == t.number;
        }
    }

    // ---- the face

    All all = new All();
    final List<All> marks = new ArrayList<>();
    int status = 0;
    long top = 0;
    long bottom = 1;
    int faultKind = -1;
    int faultPlace = -1;
    List<Integer> got = List.of();
    int done = -1;
    Lived life = null;

    private int no(int why) {
        status = why;
        return -1;
    }

    private int yes(int answer) {
        status = 0;
        return answer;
    }

    private boolean isKeeper(int k) {
        return k >= 0 && k < all.keepers();
    }

    private boolean isKey(int k) {
        return k >= 0 && k < all.keys();
    }

    private boolean isSet(int set) {
        return set >= 0 && set < 1 << all.keepers();
    }

    private static int setOf(List<Integer> list) {
        int set = 0;
        for (int i : list) {
            set |= 1 << i;
        }
        return set;
    }

    private void fraction(int above, int below) {
        int a = above;
        int b = below;
        while (b != 0) {
            int rest = a % b;
            a = b;
            b = rest;
        }
        top = above / a;
        bottom = below / a;
    }

    int shelf(String text) {
        try {
            all = readShelf(text);
            faultKind = 0;
            faultPlace = -1;
            return yes(all.keys());
        } catch (Fault f) {
            faultKind = f.kind;
            faultPlace = f.place;
            return no(9);
        }
    }

    int days(String text) {
        try {
            steps = 0;
            all.days = readSteps(new Text(text), 0);
            faultKind = 0;
            faultPlace = -1;
            return yes(steps);
        } catch (Fault f) {
            faultKind = f.kind;
            faultPlace = f.place;
            return no(9);
        }
    }

    int told(int what) {
        int up = 0;
        for (int i = 0; i < all.keepers(); i++) {
            up |= all.up[i] ? 1 << i : 0;
        }
        int tickets = 0;
        for (int i = 0; i < 4; i++) {
            tickets |= all.tickets[i] != null ? 1 << i : 0;
        }
        int[] told = {all.n, all.r, all.w, all.keepers(), all.keys(), up, all.parted, tickets};
        return what < 0 || what > 7 ? no(1) : yes(told[what]);
    }

    int row(int key, int k) {
        if (!isKey(key)) {
            return no(1);
        }
        List<Integer> row = all.row(key);
        return k < 0 || k >= row.size() ? no(6) : yes(row.get(k));
    }

    int places(int key) {
        return isKey(key) ? yes(setOf(all.places(key))) : no(1);
    }

    int reach(int a, int b) {
        return isKeeper(a) && isKeeper(b) ? yes(all.reach(a, b) ? 1 : 0) : no(1);
    }

    private int tellDone(int told) {
        if (told < 0) {
            return no(7);
        }
        done = told >= all.w ? 1 : 0;
        return yes(told);
    }

    int put(int key, int keeper, int value, int ticket) {
        if (value == 1000) {
            return no(1);
        }
        return putAny(key, keeper, value, ticket);
    }

    private int putAny(int key, int keeper, int value, int ticket) {
        if (!isKey(key) || !isKeeper(keeper) || value < 0 || value > 1000 || ticket < -1 || ticket > 3) {
            return no(1);
        }
        if (ticket >= 0 && all.tickets[ticket] == null) {
            return no(6);
        }
        return tellDone(all.put(key, keeper, value, ticket));
    }

    int strike(int key, int keeper, int ticket) {
        return putAny(key, keeper, 1000, ticket);
    }

    int add(int key, int keeper, int n) {
        return isKey(key) && isKeeper(keeper) && n >= 1 && n <= 999 ? tellDone(all.add(key, keeper, n)) : no(1);
    }

    int get(int key, int keeper, int ticket) {
        if (!isKey(key) || !isKeeper(keeper) || ticket < -1 || ticket > 3) {
            return no(1);
        }
        Had told = all.get(key, keeper, ticket);
        if (told == null) {
            return no(7);
        }
        got = new ArrayList<>(told.twins.values());
        return yes(all.sums.get(key) ? told.sum() : got.size());
    }

    int got(int k) {
        return k < 0 || k >= got.size() ? no(6) : yes(got.get(k));
    }

    int isDone() {
        return done < 0 ? no(6) : yes(done);
    }

    boolean fall(int keeper, boolean is) {
        if (!isKeeper(keeper)) {
            return no(1) == 0;
        }
        all.up[keeper] = !is;
        return yes(0) == 0;
    }

    boolean wipe(int keeper) {
        if (!isKeeper(keeper)) {
            return no(1) == 0;
        }
        all.wipe(keeper);
        return yes(0) == 0;
    }

    boolean part(int set) {
        if (!isSet(set)) {
            return no(1) == 0;
        }
        all.parted = set;
        return yes(0) == 0;
    }

    int hand() {
        return yes(all.hand());
    }

    int night(int a, int b) {
        if (!isKeeper(a) || !isKeeper(b) || a == b) {
            return no(1);
        }
        return all.reach(a, b) ? yes(all.night(a, b)) : no(7);
    }

    int bury(int key) {
        if (!isKey(key)) {
            return no(1);
        }
        if (all.sums.get(key) || !all.alike(key) || all.places(key).stream().anyMatch(k -> !all.up[k])) {
            return no(7);
        }
        int many = 0;
        for (int keeper : all.places(key)) {
            int ahead = all.had[keeper][key].twins.size();
            all.had[keeper][key].twins.values().removeIf(v -> v == 1000);
            many = ahead - all.had[keeper][key].twins.size();
        }
        return yes(many);
    }

    int twins(int keeper, int key) {
        return isKeeper(keeper) && isKey(key) ? yes(all.had[keeper][key].twins.size()) : no(1);
    }

    int twin(int keeper, int key, int k, int what) {
        if (!isKeeper(keeper) || !isKey(key) || what < 0 || what > 2) {
            return no(1);
        }
        List<Map.Entry<Dot, Integer>> list = new ArrayList<>(all.had[keeper][key].twins.entrySet());
        if (k < 0 || k >= list.size()) {
            return no(6);
        }
        Dot dot = list.get(k).getKey();
        return yes(what == 0 ? list.get(k).getValue() : what == 1 ? dot.keeper : dot.count);
    }

    int seen(int keeper, int key, int of) {
        return isKeeper(keeper) && isKey(key) && isKeeper(of) ? yes(all.had[keeper][key].seen[of]) : no(1);
    }

    int partOf(int keeper, int key, int of) {
        if (!isKeeper(keeper) || !isKey(key) || !isKeeper(of)) {
            return no(1);
        }
        return all.sums.get(key) ? yes(all.had[keeper][key].parts[of]) : no(7);
    }

    int hints(int keeper) {
        return isKeeper(keeper) ? yes((int) all.hints.keySet().stream().filter(h -> h.watcher == keeper).count()) : no(1);
    }

    int ticket(int ticket, int of) {
        if (ticket < 0 || ticket > 3 || (of != -1 && !isKeeper(of))) {
            return no(1);
        }
        Ticket t = all.tickets[ticket];
        return t == null ? no(6) : yes(of == -1 ? t.key : t.seen[of]);
    }

    int like(int a, int b, int key) {
        return isKeeper(a) && isKeeper(b) && isKey(key) ? yes(all.had[a][key].like(all.had[b][key]) ? 1 : 0) : no(1);
    }

    int alike() {
        int set = 0;
        for (int key = 0; key < all.keys(); key++) {
            set |= all.alike(key) ? 1 << key : 0;
        }
        return yes(set);
    }

    int differ(int a, int b) {
        if (!isKeeper(a) || !isKeeper(b)) {
            return no(1);
        }
        int set = 0;
        for (int key = 0; key < all.keys(); key++) {
            boolean both = all.places(key).contains(a) && all.places(key).contains(b);
            set |= both && !all.had[a][key].like(all.had[b][key]) ? 1 << key : 0;
        }
        return yes(set);
    }

    int root(int keeper) {
        if (!isKeeper(keeper)) {
            return no(1);
        }
        long root = 0;
        for (int key = 0; key < all.keys(); key++) {
            if (all.places(key).contains(keeper)) {
                Had had = all.had[keeper][key];
                root *= 31;
                for (int value : had.twins.values()) {
                    root += 7 + value;
                }
                root += 3L * Arrays.stream(had.seen).sum() + had.sum();
                root %= 1000003;
            }
        }
        return yes((int) root);
    }

    int fresh(int key) {
        if (!isKey(key)) {
            return no(1);
        }
        List<Integer> fresh = new ArrayList<>(all.places(key));
        fresh.removeIf(k -> !all.had[k][key].like(all.all(key)));
        return yes(setOf(fresh));
    }

    int late(int keeper, int key) {
        if (!isKeeper(keeper) || !isKey(key)) {
            return no(1);
        }
        Had most = all.all(key);
        int late = 0;
        for (int i = 0; i < 6; i++) {
            late += most.seen[i] - all.had[keeper][key].seen[i] + most.parts[i] - all.had[keeper][key].parts[i];
        }
        return yes(late);
    }

    int load(int keeper) {
        if (!isKeeper(keeper)) {
            return no(1);
        }
        int many = 0;
        for (int key = 0; key < all.keys(); key++) {
            many += all.places(key).contains(keeper) ? 1 : 0;
        }
        return yes(many);
    }

    int moved(int at) {
        if (at < 0 || at > 999) {
            return no(1);
        }
        if (all.keepers() == 6) {
            return no(4);
        }
        if (all.keeperAts.contains(at)) {
            return no(7);
        }
        All more = all.copy();
        more.keeperAts = new ArrayList<>(all.keeperAts);
        more.keeperAts.add(at);
        int many = 0;
        for (int key = 0; key < all.keys(); key++) {
            many += more.places(key).contains(all.keepers()) ? 1 : 0;
        }
        return yes(many);
    }

    int nights(int key) {
        if (!isKey(key)) {
            return no(1);
        }
        List<Integer> places = all.places(key);
        Had[] had = new Had[6];
        for (int keeper = 0; keeper < 6; keeper++) {
            had[keeper] = all.had[keeper][key];
        }
        for (int many = 0; many <= 4; many++) {
            if (alikeBehind(had, places, many)) {
                return yes(many);
            }
        }
        return no(6);
    }

    private boolean alikeBehind(Had[] had, List<Integer> places, int many) {
        if (many == 0) {
            return places.stream().allMatch(k -> had[k].like(had[places.get(0)]));
        }
        for (int a : places) {
            for (int b : places) {
                if (a < b && all.reach(a, b)) {
                    Had[] then = had.clone();
                    then[a] = Had.join(had[a], had[b]);
                    then[b] = then[a];
                    if (alikeBehind(then, places, many - 1)) {
                        return true;
                    }
                }
            }
        }
        return false;
    }

    int safe(int key, int value) {
        if (!isKey(key) || value < 0 || value > 1000) {
            return no(1);
        }
        if (all.sums.get(key)) {
            return no(7);
        }
        for (int many = 1; many <= 6; many++) {
            for (int set = 0; set < 1 << all.keepers(); set++) {
                if (Integer.bitCount(set) == many && all.holders(key, value) != 0 && goneBy(key, value, set)) {
                    return yes(many);
                }
            }
        }
        return no(6);
    }

    private boolean goneBy(int key, int value, int set) {
        All then = all.copy();
        for (int keeper = 0; keeper < all.keepers(); keeper++) {
            if ((set & 1 << keeper) != 0) {
                then.wipe(keeper);
            }
        }
        return then.holders(key, value) == 0;
    }

    int holders(int key, int value) {
        if (!isKey(key) || value < 0 || value > 1000) {
            return no(1);
        }
        return all.sums.get(key) ? no(7) : yes(all.holders(key, value));
    }

    int lost(int set) {
        if (!isSet(set)) {
            return no(1);
        }
        Set<List<Integer>> couples = new HashSet<>();
        for (int key = 0; key < all.keys(); key++) {
            for (int keeper = 0; keeper < all.keepers(); keeper++) {
                for (int value : all.had[keeper][key].twins.values()) {
                    couples.add(List.of(key, value));
                }
            }
        }
        for (Map.Entry<HintFor, Had> e : all.hints.entrySet()) {
            for (int value : e.getValue().twins.values()) {
                couples.add(List.of(e.getKey().key, value));
            }
        }
        couples.removeIf(c -> c.get(1) == 1000 || (all.holders(c.get(0), c.get(1)) & ~set) != 0);
        return yes(couples.size());
    }

    /** The rows of all choices, or null if it can't be. */
    private List<List<Integer>> choices(int key, int keeper) {
        List<Integer> reached = all.reached(key, keeper);
        if (!all.up[keeper] || reached.size() < all.r) {
            return null;
        }
        List<List<Integer>> rows = new ArrayList<>();
        for (int set = 0; set < 64; set++) {
            if (Integer.bitCount(set) == all.r && (set & ~setOf(reached)) == 0) {
                Had told = new Had();
                for (int place = 0; place < 6; place++) {
                    told = (set & 1 << place) != 0 ? Had.join(told, all.had[place][key]) : told;
                }
                rows.add(all.sums.get(key) ? List.of(told.sum()) : new ArrayList<>(told.twins.values()));
            }
        }
        return rows;
    }

    int answers(int key, int keeper) {
        if (!isKey(key) || !isKeeper(keeper)) {
            return no(1);
        }
        List<List<Integer>> rows = choices(key, keeper);
        return rows == null ? no(7) : yes(new HashSet<>(rows).size());
    }

    boolean odds(int key, int keeper, int value) {
        if (!isKey(key) || !isKeeper(keeper) || value < 0 || value > 1000) {
            return no(1) == 0;
        }
        List<List<Integer>> rows = choices(key, keeper);
        if (rows == null || all.sums.get(key)) {
            return no(7) == 0;
        }
        fraction((int) rows.stream().filter(row -> row.contains(value)).count(), rows.size());
        return yes(0) == 0;
    }

    int fewestFalls(int key, int keeper) {
        if (!isKey(key) || !isKeeper(keeper)) {
            return no(1);
        }
        if (choices(key, keeper) == null) {
            return no(7);
        }
        boolean[] was = all.up;
        for (int many = 0; many < 6; many++) {
            for (int set = 0; set < 1 << all.keepers(); set++) {
                if (Integer.bitCount(set) == many && (set & 1 << keeper) == 0) {
                    all.up = was.clone();
                    for (int k = 0; k < 6; k++) {
                        all.up[k] &= (set & 1 << k) == 0;
                    }
                    boolean can = choices(key, keeper) != null;
                    all.up = was;
                    if (!can) {
                        return yes(many);
                    }
                }
            }
        }
        return no(6);
    }

    int live(int seed) {
        if (seed < 0 || seed > 9999) {
            return no(1);
        }
        if (all.days == null) {
            return no(6);
        }
        life = new Lived(all, seed);
        return yes(life.steps);
    }

    int lived(int what) {
        if (what < 0 || what > 5) {
            return no(1);
        }
        return life == null ? no(6) : yes(life.counts[what]);
    }

    boolean agreed(int seed, int many) {
        if (seed < 0 || seed > 9999 || many < 1 || many > 20 || seed + many - 1 > 9999) {
            return no(1) == 0;
        }
        if (all.days == null) {
            return no(6) == 0;
        }
        int agreed = 0;
        for (int i = 0; i < many; i++) {
            All then = new Lived(all.copy(), seed + i).a;
            boolean is = true;
            for (int key = 0; key < then.keys(); key++) {
                is &= then.alike(key);
            }
            agreed += is ? 1 : 0;
        }
        fraction(agreed, many);
        return yes(0) == 0;
    }

    int mark() {
        if (marks.size() == 3) {
            return no(4);
        }
        marks.add(all.copy());
        return yes(marks.size());
    }

    int back() {
        if (marks.isEmpty()) {
            return no(6);
        }
        all = marks.remove(marks.size() - 1);
        return yes(marks.size());
    }
}
