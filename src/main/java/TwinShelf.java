import java.util.Arrays;

/**
 * A shelf on many keepers that is never shut. What each call promises stands in ../shared/DOC.md;
 * the words used here (keeper, key, twin, dot, seen, hint, ...) are the words of that document.
 *
 * No call makes an object: all rows are made by the constructor and used again.
 */
public final class TwinShelf {
    public static final int NONE = -1;

    private static final int FINE = 0;
    private static final int BAD_NUMBER = 1;
    private static final int TRAY_MISSING = 2;
    private static final int BAD_PLACE = 3;
    private static final int TOO_MANY = 4;
    private static final int NONE_SUCH = 6;
    private static final int CANT_BE = 7;
    private static final int UNLIKE_SORTS = 8;
    private static final int FAULTY = 9;

    private static final int MOST_KEEPERS = 6;
    private static final int MOST_KEYS = 6;
    private static final int MOST_TICKETS = 4;
    private static final int MOST_DOTS = 30;
    private static final int MOST_TWINS = MOST_KEEPERS * MOST_DOTS;
    private static final int MOST_MARKS = 3;
    private static final int RING = 1000;
    private static final int TOP_VALUE = 999;
    private static final int GRAVE = 1000;

    private static final int MOST_TRAYS = 4;
    private static final int MOST_SORT = 3;
    private static final int MOST_IN_TRAY = 60;

    private static final int MOST_BYTES = 900;
    private static final int FED_BYTES = 20;
    private static final int MOST_DAYS_BYTES = 300;

    private static final int MOST_NIGHTS = 4;
    private static final int TOP_SEED = 9999;
    private static final int MOST_SEEDS = 20;

    /** How many ways there are at most to choose some of six places. */
    private static final int MOST_CHOICES = 20;

    private final Tray[] trays = new Tray[MOST_TRAYS];
    private final Reader reader = new Reader();
    private final World world = new World();
    private final ShelfText shelfText = new ShelfText(reader);
    private final DaysText daysText = new DaysText(reader, world.shelf);
    private final World[] marks = new World[MOST_MARKS];
    private final World kept = new World();
    private final Life life = new Life();
    private final Life trial = new Life();
    private final Choices choices = new Choices();
    private final NightSearch nightSearch = new NightSearch();
    private final Cells joined = new Cells(1);
    private final int[] gotValues = new int[MOST_TWINS];
    private final int[] holdersOf = new int[GRAVE + 1];
    private int status = FINE;
    private long top = 0;
    private long bottom = 1;
    private int markCount = 0;
    private int gotCount = 0;
    private int latestDone = NONE;

    public TwinShelf() {
        for (int i = 0; i < MOST_TRAYS; i++) {
            trays[i] = new Tray();
        }
        for (int i = 0; i < MOST_MARKS; i++) {
            marks[i] = new World();
        }
    }

    public int status() {
        return status;
    }

    public long top() {
        return top;
    }

    public long bottom() {
        return bottom;
    }

    // ---- TRAYS

    public boolean tray(int tray, int sort, int many) {
        if (!isTray(tray) || sort < 0 || sort > MOST_SORT || many < 0 || many > MOST_IN_TRAY) {
            return refused(BAD_NUMBER);
        }
        trays[tray].begin(sort, many);
        return allowed();
    }

    public boolean write(int tray, int place, long v) {
        int found = placeStatus(tray, place);
        if (found != FINE) {
            return refused(found);
        }
        trays[tray].keep(place, v);
        return allowed();
    }

    public long read(int tray, int place) {
        int found = placeStatus(tray, place);
        if (found != FINE) {
            return refuse(found);
        }
        status = FINE;
        return trays[tray].numbers[place];
    }

    public boolean pour(int from, int place, int to, int at, int many) {
        if (!isTray(from) || !isTray(to) || place < 0 || at < 0 || many < 0) {
            return refused(BAD_NUMBER);
        }
        Tray source = trays[from];
        Tray goal = trays[to];
        if (!source.there || !goal.there) {
            return refused(TRAY_MISSING);
        }
        if (source.sort != goal.sort) {
            return refused(UNLIKE_SORTS);
        }
        if (many > source.many - place || many > goal.many - at) {
            return refused(BAD_PLACE);
        }
        System.arraycopy(source.numbers, place, goal.numbers, at, many);
        return allowed();
    }

    // ---- texts

    public int feed(int a, int b, int c, int d, int e) {
        if (reader.fed > MOST_BYTES - FED_BYTES) {
            return NONE;
        }
        reader.take(a);
        reader.take(b);
        reader.take(c);
        reader.take(d);
        reader.take(e);
        return reader.fed;
    }

    public int shelf(int n) {
        if (n < 0 || n > reader.fed) {
            return refuse(BAD_NUMBER);
        }
        reader.open(n);
        if (!shelfText.isTaken()) {
            return refuse(FAULTY);
        }
        world.begin(shelfText.shelf);
        return answer(world.shelf.keys);
    }

    public int days(int n) {
        if (n < 0 || n > reader.fed || n > MOST_DAYS_BYTES) {
            return refuse(BAD_NUMBER);
        }
        reader.open(n);
        if (!daysText.isTaken()) {
            return refuse(FAULTY);
        }
        world.days.copy(daysText.days);
        return answer(world.days.steps);
    }

    public int fault(int what) {
        if (what == 0) {
            return reader.faultKind;
        }
        return what == 1 ? reader.faultPlace : NONE;
    }

    public int told(int what) {
        switch (what) {
            case 0:
                return answer(world.shelf.copies);
            case 1:
                return answer(world.shelf.reads);
            case 2:
                return answer(world.shelf.writes);
            case 3:
                return answer(world.shelf.keepers);
            case 4:
                return answer(world.shelf.keys);
            case 5:
                return answer(world.up);
            case 6:
                return answer(world.parted);
            case 7:
                return answer(world.ticketSet);
            default:
                return refuse(BAD_NUMBER);
        }
    }

    public int row(int key, int k) {
        if (!isKey(key)) {
            return refuse(BAD_NUMBER);
        }
        if (k < 0 || k >= world.shelf.keepers) {
            return refuse(NONE_SUCH);
        }
        return answer(world.shelf.keeperAlong(key, k));
    }

    public int places(int key) {
        return isKey(key) ? answer(world.shelf.placeSet[key]) : refuse(BAD_NUMBER);
    }

    public int reach(int a, int b) {
        if (!isKeeper(a) || !isKeeper(b)) {
            return refuse(BAD_NUMBER);
        }
        return answerWhether(world.reaches(a, b));
    }

    // ---- what is done

    public int put(int key, int keeper, int value, int ticket) {
        if (!isKey(key) || !isKeeper(keeper) || value < 0 || value > TOP_VALUE || !isTicketOrNone(ticket)) {
            return refuse(BAD_NUMBER);
        }
        return putOrStrike(key, keeper, value, ticket);
    }

    public int strike(int key, int keeper, int ticket) {
        if (!isKey(key) || !isKeeper(keeper) || !isTicketOrNone(ticket)) {
            return refuse(BAD_NUMBER);
        }
        return putOrStrike(key, keeper, GRAVE, ticket);
    }

    public int add(int key, int keeper, int n) {
        if (!isKey(key) || !isKeeper(keeper) || n < 1 || n > TOP_VALUE) {
            return refuse(BAD_NUMBER);
        }
        return answerTold(world.addPart(key, keeper, n));
    }

    public int get(int key, int keeper, int ticket) {
        if (!isKey(key) || !isKeeper(keeper) || !isTicketOrNone(ticket)) {
            return refuse(BAD_NUMBER);
        }
        if (!world.collect(key, keeper, ticket, joined)) {
            return refuse(CANT_BE);
        }
        gotCount = world.valuesIn(joined, 0, key, gotValues, 0);
        return answer(world.shelf.isSum(key) ? joined.sumOf(0) : gotCount);
    }

    public int got(int k) {
        return k < 0 || k >= gotCount ? refuse(NONE_SUCH) : answer(gotValues[k]);
    }

    public int isDone() {
        return latestDone == NONE ? refuse(NONE_SUCH) : answer(latestDone);
    }

    public boolean fall(int keeper, boolean is) {
        if (!isKeeper(keeper)) {
            return refused(BAD_NUMBER);
        }
        world.setUp(keeper, !is);
        return allowed();
    }

    public boolean wipe(int keeper) {
        if (!isKeeper(keeper)) {
            return refused(BAD_NUMBER);
        }
        world.wipeAll(keeper);
        return allowed();
    }

    public boolean part(int set) {
        if (!isKeeperSet(set)) {
            return refused(BAD_NUMBER);
        }
        world.parted = set;
        return allowed();
    }

    public int hand() {
        return answer(world.handOn());
    }

    public int night(int a, int b) {
        if (!isKeeper(a) || !isKeeper(b) || a == b) {
            return refuse(BAD_NUMBER);
        }
        int unlike = world.compare(a, b);
        return unlike == NONE ? refuse(CANT_BE) : answer(unlike);
    }

    public int bury(int key) {
        if (!isKey(key)) {
            return refuse(BAD_NUMBER);
        }
        if (world.shelf.isSum(key) || !world.areUp(world.shelf.placeSet[key]) || !world.isAlike(key)) {
            return refuse(CANT_BE);
        }
        return answer(world.buryGraves(key));
    }

    // ---- who has what

    public int twins(int keeper, int key) {
        if (!isKeeper(keeper) || !isKey(key)) {
            return refuse(BAD_NUMBER);
        }
        return answer(world.have.twinCount(World.cellOf(keeper, key)));
    }

    public int twin(int keeper, int key, int k, int what) {
        if (!isKeeper(keeper) || !isKey(key) || what < 0 || what > 2) {
            return refuse(BAD_NUMBER);
        }
        int dot = world.have.dotAt(World.cellOf(keeper, key), k);
        if (dot == NONE) {
            return refuse(NONE_SUCH);
        }
        if (what == 0) {
            return answer(world.values[key * MOST_TWINS + dot]);
        }
        return answer(what == 1 ? dot / MOST_DOTS : dot % MOST_DOTS + 1);
    }

    public int seen(int keeper, int key, int of) {
        if (!isKeeper(keeper) || !isKey(key) || !isKeeper(of)) {
            return refuse(BAD_NUMBER);
        }
        return answer(world.shelf.isSum(key) ? 0 : world.have.seenOf(World.cellOf(keeper, key), of));
    }

    public int partOf(int keeper, int key, int of) {
        if (!isKeeper(keeper) || !isKey(key) || !isKeeper(of)) {
            return refuse(BAD_NUMBER);
        }
        if (!world.shelf.isSum(key)) {
            return refuse(CANT_BE);
        }
        return answer(world.have.seenOf(World.cellOf(keeper, key), of));
    }

    public int hints(int keeper) {
        return isKeeper(keeper) ? answer(world.hintCount(keeper)) : refuse(BAD_NUMBER);
    }

    public int ticket(int ticket, int of) {
        if (ticket < 0 || ticket >= MOST_TICKETS || (of != NONE && !isKeeper(of))) {
            return refuse(BAD_NUMBER);
        }
        if (!world.hasTicket(ticket)) {
            return refuse(NONE_SUCH);
        }
        return answer(of == NONE ? world.ticketKey[ticket] : world.tickets.seenOf(ticket, of));
    }

    public int like(int a, int b, int key) {
        if (!isKeeper(a) || !isKeeper(b) || !isKey(key)) {
            return refuse(BAD_NUMBER);
        }
        return answerWhether(world.areLike(a, b, key));
    }

    public int alike() {
        int set = 0;
        for (int key = 0; key < world.shelf.keys; key++) {
            if (world.isAlike(key)) {
                set |= 1 << key;
            }
        }
        return answer(set);
    }

    public int differ(int a, int b) {
        if (!isKeeper(a) || !isKeeper(b)) {
            return refuse(BAD_NUMBER);
        }
        int set = 0;
        for (int key = 0; key < world.shelf.keys; key++) {
            if (world.shelf.areBothPlaces(key, a, b) && !world.areLike(a, b, key)) {
                set |= 1 << key;
            }
        }
        return answer(set);
    }

    public int root(int keeper) {
        return isKeeper(keeper) ? answer(world.rootOf(keeper)) : refuse(BAD_NUMBER);
    }

    public int fresh(int key) {
        if (!isKey(key)) {
            return refuse(BAD_NUMBER);
        }
        world.joinSet(world.shelf.keeperSet(), key, joined, 0);
        int set = 0;
        for (int keeper = 0; keeper < world.shelf.keepers; keeper++) {
            if (world.shelf.isPlace(key, keeper) && joined.isSame(0, world.have, World.cellOf(keeper, key))) {
                set |= 1 << keeper;
            }
        }
        return answer(set);
    }

    public int late(int keeper, int key) {
        if (!isKeeper(keeper) || !isKey(key)) {
            return refuse(BAD_NUMBER);
        }
        world.joinSet(world.shelf.keeperSet(), key, joined, 0);
        return answer(joined.sumOf(0) - world.have.sumOf(World.cellOf(keeper, key)));
    }

    public int load(int keeper) {
        if (!isKeeper(keeper)) {
            return refuse(BAD_NUMBER);
        }
        int many = 0;
        for (int key = 0; key < world.shelf.keys; key++) {
            if (world.shelf.isPlace(key, keeper)) {
                many++;
            }
        }
        return answer(many);
    }

    public int moved(int at) {
        if (at < 0 || at >= RING) {
            return refuse(BAD_NUMBER);
        }
        if (world.shelf.keepers >= MOST_KEEPERS) {
            return refuse(TOO_MANY);
        }
        if (world.shelf.isTakenAt(at)) {
            return refuse(CANT_BE);
        }
        int many = 0;
        for (int key = 0; key < world.shelf.keys; key++) {
            if (world.shelf.keepersAhead(key, at) < world.shelf.copies) {
                many++;
            }
        }
        return answer(many);
    }

    public int nights(int key) {
        if (!isKey(key)) {
            return refuse(BAD_NUMBER);
        }
        int fewest = nightSearch.fewest(world, key);
        return fewest == NONE ? refuse(NONE_SUCH) : answer(fewest);
    }

    public int safe(int key, int value) {
        if (!isKey(key) || value < 0 || value > GRAVE) {
            return refuse(BAD_NUMBER);
        }
        // Ahead of 6 against the order of the numbers: of a sum nobody can be asked for a value.
        if (world.shelf.isSum(key)) {
            return refuse(CANT_BE);
        }
        int set = holderSet(key, value);
        return set == 0 ? refuse(NONE_SUCH) : answer(Integer.bitCount(set));
    }

    // ---- what may be

    public int holders(int key, int value) {
        if (!isKey(key) || value < 0 || value > GRAVE) {
            return refuse(BAD_NUMBER);
        }
        return world.shelf.isSum(key) ? refuse(CANT_BE) : answer(holderSet(key, value));
    }

    public int lost(int set) {
        if (!isKeeperSet(set)) {
            return refuse(BAD_NUMBER);
        }
        int many = 0;
        for (int key = 0; key < world.shelf.keys; key++) {
            world.noteHolders(key, holdersOf);
            for (int value = 0; value <= TOP_VALUE; value++) {
                if (holdersOf[value] != 0 && (holdersOf[value] & ~set) == 0) {
                    many++;
                }
            }
        }
        return answer(many);
    }

    public int answers(int key, int keeper) {
        if (!isKey(key) || !isKeeper(keeper)) {
            return refuse(BAD_NUMBER);
        }
        if (!choices.fill(world, key, keeper)) {
            return refuse(CANT_BE);
        }
        return answer(choices.unlikeRows());
    }

    public boolean odds(int key, int keeper, int value) {
        if (!isKey(key) || !isKeeper(keeper) || value < 0 || value > GRAVE) {
            return refused(BAD_NUMBER);
        }
        if (world.shelf.isSum(key) || !choices.fill(world, key, keeper)) {
            return refused(CANT_BE);
        }
        setFraction(choices.rowsWith(value), choices.many);
        return allowed();
    }

    public int fewestFalls(int key, int keeper) {
        if (!isKey(key) || !isKeeper(keeper)) {
            return refuse(BAD_NUMBER);
        }
        int reached = Integer.bitCount(world.placesReached(key, keeper));
        if (reached < world.shelf.reads) {
            return refuse(CANT_BE);
        }
        int needed = reached - world.shelf.reads + 1;
        int others = world.shelf.isPlace(key, keeper) ? reached - 1 : reached;
        return needed > others ? refuse(NONE_SUCH) : answer(needed);
    }

    // ---- DAYS

    public int live(int seed) {
        if (seed < 0 || seed > TOP_SEED) {
            return refuse(BAD_NUMBER);
        }
        if (!world.days.there) {
            return refuse(NONE_SUCH);
        }
        life.run(world, seed, joined);
        return answer(life.steps);
    }

    public int lived(int what) {
        if (what < 0 || what >= Life.TALLIES) {
            return refuse(BAD_NUMBER);
        }
        return life.steps == NONE ? refuse(NONE_SUCH) : answer(life.tally[what]);
    }

    public boolean agreed(int seed, int many) {
        if (seed < 0 || many < 1 || many > MOST_SEEDS || seed > TOP_SEED - many + 1) {
            return refused(BAD_NUMBER);
        }
        if (!world.days.there) {
            return refused(NONE_SUCH);
        }
        int count = 0;
        for (int i = 0; i < many; i++) {
            kept.copy(world);
            trial.run(kept, seed + i, joined);
            if (kept.areAllAlike()) {
                count++;
            }
        }
        setFraction(count, many);
        return allowed();
    }

    // ---- MARKS

    public int mark() {
        if (markCount >= MOST_MARKS) {
            return refuse(TOO_MANY);
        }
        marks[markCount].copy(world);
        markCount++;
        return answer(markCount);
    }

    public int back() {
        if (markCount <= 0) {
            return refuse(NONE_SUCH);
        }
        markCount--;
        world.copy(marks[markCount]);
        return answer(markCount);
    }

    // ---- what the calls share

    private int answer(int given) {
        status = FINE;
        return given;
    }

    private int answerWhether(boolean is) {
        return answer(is ? 1 : 0);
    }

    private int refuse(int why) {
        status = why;
        return NONE;
    }

    private boolean allowed() {
        status = FINE;
        return true;
    }

    private boolean refused(int why) {
        status = why;
        return false;
    }

    private boolean isTray(int tray) {
        return tray >= 0 && tray < MOST_TRAYS;
    }

    private boolean isKeeper(int keeper) {
        return keeper >= 0 && keeper < world.shelf.keepers;
    }

    private boolean isKey(int key) {
        return key >= 0 && key < world.shelf.keys;
    }

    private boolean isTicketOrNone(int ticket) {
        return ticket >= NONE && ticket < MOST_TICKETS;
    }

    private boolean isKeeperSet(int set) {
        return (set & ~world.shelf.keeperSet()) == 0;
    }

    private int placeStatus(int tray, int place) {
        if (!isTray(tray)) {
            return BAD_NUMBER;
        }
        if (!trays[tray].there) {
            return TRAY_MISSING;
        }
        return place < 0 || place >= trays[tray].many ? BAD_PLACE : FINE;
    }

    private int putOrStrike(int key, int keeper, int value, int ticket) {
        if (ticket != NONE && !world.hasTicket(ticket)) {
            return refuse(NONE_SUCH);
        }
        return answerTold(world.putValue(key, keeper, value, ticket));
    }

    private int answerTold(int many) {
        if (many == NONE) {
            return refuse(CANT_BE);
        }
        latestDone = many >= world.shelf.writes ? 1 : 0;
        return answer(many);
    }

    private int holderSet(int key, int value) {
        world.noteHolders(key, holdersOf);
        return holdersOf[value];
    }

    /** Both are at most 20, so all divisors can be tried. */
    private void setFraction(int above, int below) {
        top = above;
        bottom = below;
        for (int d = below; d > 1; d--) {
            if (top % d == 0 && bottom % d == 0) {
                top /= d;
                bottom /= d;
            }
        }
    }

    /** A row of numbers of one sort. */
    private static final class Tray {
        final long[] numbers = new long[MOST_IN_TRAY];
        boolean there = false;
        int sort = 0;
        int many = 0;

        void begin(int newSort, int newMany) {
            there = true;
            sort = newSort;
            many = newMany;
            Arrays.fill(numbers, 0L);
        }

        void keep(int place, long v) {
            numbers[place] = cut(v);
        }

        private long cut(long v) {
            switch (sort) {
                case 0:
                    return (byte) v;
                case 1:
                    return (short) v;
                case 2:
                    return (int) v;
                default:
                    return v;
            }
        }
    }

    /**
     * What is had at keys, cell by cell: of each keeper which of its dots are twins (a bit for each count)
     * and up to which count they were seen. Of a sum the parts stand in place of the counts, and there are
     * no twins: so one JOIN serves both.
     */
    private static final class Cells {
        final int[] twinBits;
        final int[] counts;

        Cells(int many) {
            twinBits = new int[many * MOST_KEEPERS];
            counts = new int[many * MOST_KEEPERS];
        }

        static int upTo(int count) {
            return count >= MOST_DOTS ? (1 << MOST_DOTS) - 1 : (1 << count) - 1;
        }

        void copyAll(Cells other) {
            System.arraycopy(other.twinBits, 0, twinBits, 0, twinBits.length);
            System.arraycopy(other.counts, 0, counts, 0, counts.length);
        }

        void emptyAll() {
            Arrays.fill(twinBits, 0);
            Arrays.fill(counts, 0);
        }

        void empty(int cell) {
            int from = cell * MOST_KEEPERS;
            Arrays.fill(twinBits, from, from + MOST_KEEPERS, 0);
            Arrays.fill(counts, from, from + MOST_KEEPERS, 0);
        }

        void copyCell(int cell, Cells other, int otherCell) {
            int to = cell * MOST_KEEPERS;
            int from = otherCell * MOST_KEEPERS;
            System.arraycopy(other.twinBits, from, twinBits, to, MOST_KEEPERS);
            System.arraycopy(other.counts, from, counts, to, MOST_KEEPERS);
        }

        void copyCounts(int cell, Cells other, int otherCell) {
            System.arraycopy(other.counts, otherCell * MOST_KEEPERS, counts, cell * MOST_KEEPERS, MOST_KEEPERS);
        }

        void join(int cell, Cells other, int otherCell) {
            int a = cell * MOST_KEEPERS;
            int b = otherCell * MOST_KEEPERS;
            for (int of = 0; of < MOST_KEEPERS; of++) {
                int mine = twinBits[a + of];
                int theirs = other.twinBits[b + of];
                int mySeen = counts[a + of];
                int theirSeen = other.counts[b + of];
                if (mine != theirs) {
                    twinBits[a + of] = (mine & theirs) | (mine & ~upTo(theirSeen)) | (theirs & ~upTo(mySeen));
                }
                if (theirSeen > mySeen) {
                    counts[a + of] = theirSeen;
                }
            }
        }

        boolean isSame(int cell, Cells other, int otherCell) {
            int a = cell * MOST_KEEPERS;
            int b = otherCell * MOST_KEEPERS;
            for (int of = 0; of < MOST_KEEPERS; of++) {
                if (twinBits[a + of] != other.twinBits[b + of] || counts[a + of] != other.counts[b + of]) {
                    return false;
                }
            }
            return true;
        }

        void give(int cell, int of, int count) {
            int place = cell * MOST_KEEPERS + of;
            twinBits[place] |= 1 << (count - 1);
            counts[place] = count;
        }

        int bitsOf(int cell, int of) {
            return twinBits[cell * MOST_KEEPERS + of];
        }

        int seenOf(int cell, int of) {
            return counts[cell * MOST_KEEPERS + of];
        }

        int twinCount(int cell) {
            int many = 0;
            for (int of = 0; of < MOST_KEEPERS; of++) {
                many += Integer.bitCount(bitsOf(cell, of));
            }
            return many;
        }

        /** The k-th twin's dot as a number: 30 for each keeper ahead of its own, and its count less 1. */
        int dotAt(int cell, int k) {
            int left = k;
            for (int dot = 0; dot < MOST_TWINS && left >= 0; dot++) {
                if ((bitsOf(cell, dot / MOST_DOTS) >> (dot % MOST_DOTS) & 1) != 0) {
                    if (left == 0) {
                        return dot;
                    }
                    left--;
                }
            }
            return NONE;
        }

        int sumOf(int cell) {
            int sum = 0;
            for (int of = 0; of < MOST_KEEPERS; of++) {
                sum += seenOf(cell, of);
            }
            return sum;
        }
    }

    /** Keepers and keys on the ring, as a text told them. */
    private static final class Shelf {
        static final int COPIES_UNTOLD = 3;

        final int[] keeperAt = new int[MOST_KEEPERS];
        final long[] keeperName = new long[MOST_KEEPERS];
        final int[] keyAt = new int[MOST_KEYS];
        final long[] keyName = new long[MOST_KEYS];
        final int[] rows = new int[MOST_KEYS * MOST_KEEPERS];
        final int[] placeSet = new int[MOST_KEYS];
        int keepers = 0;
        int keys = 0;
        int sums = 0;
        int copies = COPIES_UNTOLD;
        int reads = 1;
        int writes = 1;

        void clear() {
            keepers = 0;
            keys = 0;
            sums = 0;
            copies = COPIES_UNTOLD;
            reads = 1;
            writes = 1;
        }

        void copy(Shelf other) {
            keepers = other.keepers;
            keys = other.keys;
            sums = other.sums;
            copies = other.copies;
            reads = other.reads;
            writes = other.writes;
            System.arraycopy(other.keeperAt, 0, keeperAt, 0, MOST_KEEPERS);
            System.arraycopy(other.keeperName, 0, keeperName, 0, MOST_KEEPERS);
            System.arraycopy(other.keyAt, 0, keyAt, 0, MOST_KEYS);
            System.arraycopy(other.keyName, 0, keyName, 0, MOST_KEYS);
            System.arraycopy(other.rows, 0, rows, 0, rows.length);
            System.arraycopy(other.placeSet, 0, placeSet, 0, MOST_KEYS);
        }

        /** Rows can be laid only when all keepers are told: a later one may stand ahead of an earlier one. */
        void layRows() {
            for (int key = 0; key < keys; key++) {
                placeSet[key] = 0;
                for (int keeper = 0; keeper < keepers; keeper++) {
                    int k = keepersAhead(key, keeperAt[keeper]);
                    rows[key * MOST_KEEPERS + k] = keeper;
                    if (k < copies) {
                        placeSet[key] |= 1 << keeper;
                    }
                }
            }
        }

        int keepersAhead(int key, int at) {
            int way = wayFrom(key, at);
            int many = 0;
            for (int keeper = 0; keeper < keepers; keeper++) {
                if (wayFrom(key, keeperAt[keeper]) < way) {
                    many++;
                }
            }
            return many;
        }

        private int wayFrom(int key, int at) {
            return at >= keyAt[key] ? at - keyAt[key] : at - keyAt[key] + RING;
        }

        int keeperAlong(int key, int k) {
            return rows[key * MOST_KEEPERS + k];
        }

        int keeperSet() {
            return (1 << keepers) - 1;
        }

        boolean isSum(int key) {
            return (sums >> key & 1) != 0;
        }

        boolean isPlace(int key, int keeper) {
            return (placeSet[key] >> keeper & 1) != 0;
        }

        boolean areBothPlaces(int key, int a, int b) {
            return isPlace(key, a) && isPlace(key, b);
        }

        boolean isTakenAt(int at) {
            for (int keeper = 0; keeper < keepers; keeper++) {
                if (keeperAt[keeper] == at) {
                    return true;
                }
            }
            return false;
        }

        int keeperNamed(long name) {
            for (int keeper = 0; keeper < keepers; keeper++) {
                if (keeperName[keeper] == name) {
                    return keeper;
                }
            }
            return NONE;
        }

        int keyNamed(long name) {
            for (int key = 0; key < keys; key++) {
                if (keyName[key] == name) {
                    return key;
                }
            }
            return NONE;
        }
    }

    /** The steps of the days, and the ends of those that hold others, one behind the other. */
    private static final class Days {
        static final int MOST_STEPS = 30;
        static final int MOST_LINES = 2 * MOST_STEPS;

        /** The reader's number of the line's word; of a when the number of its test's word. */
        final int[] word = new int[MOST_LINES];
        final int[] key = new int[MOST_LINES];
        final int[] keeper = new int[MOST_LINES];
        final int[] number = new int[MOST_LINES];
        /** The second keeper of a night, or the sign of a test. */
        final int[] other = new int[MOST_LINES];
        /** From a when or loop to its end, and from an end to what it ends. */
        final int[] mate = new int[MOST_LINES];
        boolean there = false;
        int lines = 0;
        int steps = 0;

        void clear() {
            there = false;
            lines = 0;
            steps = 0;
        }

        void copy(Days from) {
            there = from.there;
            lines = from.lines;
            steps = from.steps;
            System.arraycopy(from.word, 0, word, 0, lines);
            System.arraycopy(from.key, 0, key, 0, lines);
            System.arraycopy(from.keeper, 0, keeper, 0, lines);
            System.arraycopy(from.number, 0, number, 0, lines);
            System.arraycopy(from.other, 0, other, 0, lines);
            System.arraycopy(from.mate, 0, mate, 0, lines);
        }
    }

    /** The tape, and the token of it that is being looked at; the first fault stays here. */
    private static final class Reader {
        static final int AT_END = 0;
        static final int WORD = 1;
        static final int NUMBER = 2;
        static final int SIGN = 3;
        static final int BAD = 4;

        static final int NO_TOKEN = 1;
        static final int CANT_STAND = 2;
        static final int WRONG_NAME = 3;
        static final int WRONG_NUMBER = 4;
        static final int UNFIT = 5;
        static final int ONE_MORE = 6;
        static final int TOO_DEEP = 7;

        static final int PLACES = 0;
        static final int READS = 1;
        static final int WRITES = 2;
        static final int KEEPER = 3;
        static final int AT = 4;
        static final int KEY = 5;
        static final int SUM = 6;
        static final int PUT = 7;
        static final int STRIKE = 8;
        static final int ADD = 9;
        static final int GET = 10;
        static final int FALL = 11;
        static final int RISE = 12;
        static final int WIPE = 13;
        static final int PART = 14;
        static final int HEAL = 15;
        static final int HAND = 16;
        static final int NIGHT = 17;
        static final int STORM = 18;
        static final int WHEN = 19;
        static final int ALIKE = 20;
        static final int UP = 21;
        static final int TWINS = 22;
        static final int LOOP = 23;
        static final int END = 24;
        static final int STOP = 25;
        /** In the order of the numbers above, a blank behind each. */
        static final String OWN_WORDS = "places reads writes keeper at key sum put strike add get fall rise wipe part heal hand night storm when alike up twins loop end stop ";

        static final int MOST_LETTERS = 8;
        static final int MOST_DIGITS = 4;

        final int[] bytes = new int[MOST_BYTES];
        int fed = 0;
        int faultKind = NONE;
        int faultPlace = NONE;
        int token = AT_END;
        int place = 0;
        int number = 0;
        int sign = 0;
        /** Which of the document's own words it is, or NONE. */
        int ownWord = NONE;
        /** The letters of a word that may be a name, as one number; else NONE. */
        long name = NONE;
        private int length = 0;
        private int next = 0;

        void take(int four) {
            for (int shift = 24; shift >= 0 && fed < MOST_BYTES; shift -= 8) {
                bytes[fed] = four >> shift & 255;
                fed++;
            }
        }

        /** The tape counts as empty from here on; its bytes stay until the next are fed. */
        void open(int n) {
            fed = 0;
            length = n;
            next = 0;
            faultKind = 0;
            faultPlace = NONE;
        }

        void step() {
            while (next < length && (bytes[next] == 10 || bytes[next] == 32)) {
                next++;
            }
            place = next;
            ownWord = NONE;
            name = NONE;
            if (next >= length) {
                token = AT_END;
            } else if (isLetter(bytes[next])) {
                stepWord();
            } else if (isDigit(bytes[next])) {
                stepNumber();
            } else {
                sign = bytes[next];
                token = sign == ';' || sign == '<' || sign == '>' || sign == '=' ? SIGN : BAD;
                next++;
            }
        }

        private void stepWord() {
            token = WORD;
            long letters = 0;
            while (next < length && isLetter(bytes[next])) {
                if (next - place < MOST_LETTERS) {
                    letters = letters * 32 + (bytes[next] - 'a' + 1);
                }
                next++;
            }
            ownWord = findOwnWord(next - place);
            if (ownWord == NONE && next - place <= MOST_LETTERS) {
                name = letters;
            }
        }

        private void stepNumber() {
            token = NUMBER;
            number = 0;
            while (next < length && isDigit(bytes[next])) {
                if (next - place < MOST_DIGITS) {
                    number = number * 10 + (bytes[next] - '0');
                } else {
                    token = BAD;
                }
                next++;
            }
        }

        private int findOwnWord(int letters) {
            int which = 0;
            int along = 0;
            boolean same = true;
            for (int i = 0; i < OWN_WORDS.length(); i++) {
                char c = OWN_WORDS.charAt(i);
                if (c == ' ') {
                    if (same && along == letters) {
                        return which;
                    }
                    which++;
                    along = 0;
                    same = true;
                } else {
                    same = same && along < letters && bytes[place + along] == c;
                    along++;
                }
            }
            return NONE;
        }

        private static boolean isLetter(int b) {
            return b >= 'a' && b <= 'z';
        }

        private static boolean isDigit(int b) {
            return b >= '0' && b <= '9';
        }

        /** Always false, so that a text is given up with one line; of one token the least kind counts. */
        boolean blame(int kind) {
            faultKind = token == BAD ? NO_TOKEN : kind;
            faultPlace = place;
            return false;
        }

        boolean isSign(int wanted) {
            return (token == SIGN && sign == wanted) || blame(CANT_STAND);
        }

        boolean isOwnWord(int wanted) {
            return ownWord == wanted || blame(CANT_STAND);
        }

        boolean isNumberFrom(int least, int most) {
            if (token != NUMBER) {
                return blame(CANT_STAND);
            }
            return (number >= least && number <= most) || blame(WRONG_NUMBER);
        }

        boolean isName() {
            return name != NONE || blame(CANT_STAND);
        }
    }

    /** Reads a shelf's text; what follows a part's word is told by items, a letter each (see takesItem). */
    private static final class ShelfText {
        static final String ITEMS_OF_PLACES = "nrRwW;";
        static final String ITEMS_OF_KEEPER = "k@K;";
        static final String ITEMS_OF_KEY = "y@Y.";
        /** The sign that ends a key, and ahead of it perhaps the word sum. */
        static final char PERHAPS_SUM = '.';

        final Shelf shelf = new Shelf();
        private final Reader reader;
        private boolean copiesTold = false;

        ShelfText(Reader reader) {
            this.reader = reader;
        }

        boolean isTaken() {
            shelf.clear();
            copiesTold = false;
            // Each turn goes on by one byte at least.
            for (int turn = 0; turn <= MOST_BYTES; turn++) {
                reader.step();
                if (reader.token == Reader.AT_END) {
                    shelf.layRows();
                    return true;
                }
                if (!mayBegin(reader.ownWord) || !takesItems(itemsOf(reader.ownWord))) {
                    return false;
                }
            }
            return false;
        }

        private boolean mayBegin(int word) {
            switch (word) {
                case Reader.PLACES:
                    return !copiesTold || reader.blame(Reader.UNFIT);
                case Reader.KEEPER:
                    return shelf.keepers < MOST_KEEPERS || reader.blame(Reader.ONE_MORE);
                case Reader.KEY:
                    return shelf.keys < MOST_KEYS || reader.blame(Reader.ONE_MORE);
                default:
                    return reader.blame(Reader.CANT_STAND);
            }
        }

        private static String itemsOf(int word) {
            if (word == Reader.PLACES) {
                return ITEMS_OF_PLACES;
            }
            return word == Reader.KEEPER ? ITEMS_OF_KEEPER : ITEMS_OF_KEY;
        }

        private boolean takesItems(String items) {
            for (int i = 0; i < items.length(); i++) {
                reader.step();
                if (items.charAt(i) == PERHAPS_SUM && reader.ownWord == Reader.SUM) {
                    shelf.sums |= 1 << (shelf.keys - 1);
                    reader.step();
                }
                if (!takesItem(items.charAt(i))) {
                    return false;
                }
            }
            return true;
        }

        private boolean takesItem(int item) {
            switch (item) {
                case 'n':
                    return takesCopies();
                case 'r':
                    return reader.isOwnWord(Reader.READS);
                case 'R':
                    shelf.reads = reader.number;
                    return reader.isNumberFrom(1, shelf.copies);
                case 'w':
                    return reader.isOwnWord(Reader.WRITES);
                case 'W':
                    shelf.writes = reader.number;
                    return reader.isNumberFrom(1, shelf.copies);
                case '@':
                    return reader.isOwnWord(Reader.AT);
                case 'k':
                    shelf.keeperName[shelf.keepers] = reader.name;
                    return isNewName();
                case 'K':
                    return takesKeeperAt();
                case 'y':
                    shelf.keyName[shelf.keys] = reader.name;
                    return isNewName();
                case 'Y':
                    return takesKeyAt();
                default:
                    return reader.isSign(';');
            }
        }

        private boolean takesCopies() {
            copiesTold = true;
            shelf.copies = reader.number;
            return reader.isNumberFrom(1, MOST_KEEPERS);
        }

        private boolean isNewName() {
            boolean isNew = shelf.keeperNamed(reader.name) == NONE && shelf.keyNamed(reader.name) == NONE;
            return reader.isName() && (isNew || reader.blame(Reader.WRONG_NAME));
        }

        private boolean takesKeeperAt() {
            if (!reader.isNumberFrom(0, RING - 1)) {
                return false;
            }
            if (shelf.isTakenAt(reader.number)) {
                return reader.blame(Reader.UNFIT);
            }
            shelf.keeperAt[shelf.keepers] = reader.number;
            shelf.keepers++;
            return true;
        }

        private boolean takesKeyAt() {
            shelf.keyAt[shelf.keys] = reader.number;
            shelf.keys++;
            return reader.isNumberFrom(0, RING - 1);
        }
    }

    /**
     * Reads the text of days for the keepers and keys of a shelf; what follows a step's word is told by items,
     * a letter each (see takesItem).
     */
    private static final class DaysText {
        static final int MOST_DEPTH = 3;
        static final int MOST_COUNTED = 99;

        final Days days = new Days();
        private final Reader reader;
        private final Shelf shelf;
        /** The lines of the whens and loops that are not ended yet. */
        private final int[] open = new int[MOST_DEPTH];
        private int depth = 0;

        DaysText(Reader reader, Shelf shelf) {
            this.reader = reader;
            this.shelf = shelf;
        }

        boolean isTaken() {
            depth = 0;
            days.clear();
            // Each turn goes on by one byte at least.
            for (int turn = 0; turn <= MOST_DAYS_BYTES; turn++) {
                reader.step();
                if (reader.token == Reader.AT_END) {
                    days.there = true;
                    return depth == 0 || reader.blame(Reader.CANT_STAND);
                }
                if (reader.ownWord == Reader.END ? !takesEnd() : !takesStep()) {
                    return false;
                }
            }
            return false;
        }

        private boolean takesEnd() {
            if (depth <= 0) {
                return reader.blame(Reader.CANT_STAND);
            }
            depth--;
            int line = newLine(Reader.END);
            days.mate[line] = open[depth];
            days.mate[open[depth]] = line;
            reader.step();
            return reader.isSign(';');
        }

        private boolean takesStep() {
            int word = reader.ownWord;
            if (!mayBegin(word)) {
                return false;
            }
            days.steps++;
            int line = newLine(word);
            if (holdsOthers(word)) {
                open[depth] = line;
                depth++;
            }
            if (word == Reader.PART) {
                return takesSet(line);
            }
            if (word == Reader.WHEN) {
                reader.step();
                if (!isTest(reader.ownWord)) {
                    return reader.blame(Reader.CANT_STAND);
                }
                days.word[line] = reader.ownWord;
            }
            return takesItems(line, itemsOf(days.word[line]));
        }

        private boolean mayBegin(int word) {
            if ((word < Reader.PUT || word > Reader.WHEN) && word != Reader.LOOP && word != Reader.STOP) {
                return reader.blame(Reader.CANT_STAND);
            }
            if (days.steps >= Days.MOST_STEPS) {
                return reader.blame(Reader.ONE_MORE);
            }
            return !holdsOthers(word) || depth < MOST_DEPTH || reader.blame(Reader.TOO_DEEP);
        }

        private static boolean holdsOthers(int word) {
            return word == Reader.WHEN || word == Reader.LOOP;
        }

        private static boolean isTest(int word) {
            return word == Reader.ALIKE || word == Reader.UP || word == Reader.TWINS;
        }

        /** There is always room: each step has one line, and one end at most. */
        private int newLine(int word) {
            int line = days.lines;
            days.word[line] = word;
            days.mate[line] = line;
            days.lines++;
            return line;
        }

        private static String itemsOf(int word) {
            switch (word) {
                case Reader.PUT:
                    return "v@pn;";
                case Reader.STRIKE:
                    return "v@p;";
                case Reader.ADD:
                    return "s@pn;";
                case Reader.GET:
                    return "k@p;";
                case Reader.FALL:
                case Reader.RISE:
                case Reader.WIPE:
                case Reader.UP:
                    return "p;";
                case Reader.NIGHT:
                    return "po;";
                case Reader.STORM:
                case Reader.LOOP:
                    return "n;";
                case Reader.ALIKE:
                    return "k;";
                case Reader.TWINS:
                    return "k@pcn;";
                default:
                    return ";";
            }
        }

        private boolean takesItems(int line, String items) {
            for (int i = 0; i < items.length(); i++) {
                reader.step();
                if (!takesItem(line, items.charAt(i))) {
                    return false;
                }
            }
            return true;
        }

        private boolean takesItem(int line, int item) {
            switch (item) {
                case 'v':
                    days.key[line] = shelf.keyNamed(reader.name);
                    return isKeyName(days.key[line]) && isSumOrNot(days.key[line], false);
                case 's':
                    days.key[line] = shelf.keyNamed(reader.name);
                    return isKeyName(days.key[line]) && isSumOrNot(days.key[line], true);
                case 'k':
                    days.key[line] = shelf.keyNamed(reader.name);
                    return isKeyName(days.key[line]);
                case '@':
                    return reader.isOwnWord(Reader.AT);
                case 'p':
                    days.keeper[line] = shelf.keeperNamed(reader.name);
                    return isKeeperName(days.keeper[line]);
                case 'o':
                    days.other[line] = shelf.keeperNamed(reader.name);
                    return isKeeperName(days.other[line]);
                case 'n':
                    days.number[line] = reader.number;
                    return reader.isNumberFrom(leastFor(days.word[line]), mostFor(days.word[line]));
                case 'c':
                    days.other[line] = reader.sign;
                    return isCompares();
                default:
                    return reader.isSign(';');
            }
        }

        private boolean isKeyName(int key) {
            return reader.isName() && (key != NONE || reader.blame(Reader.WRONG_NAME));
        }

        private boolean isKeeperName(int keeper) {
            return reader.isName() && (keeper != NONE || reader.blame(Reader.WRONG_NAME));
        }

        private boolean isSumOrNot(int key, boolean wanted) {
            return shelf.isSum(key) == wanted || reader.blame(Reader.UNFIT);
        }

        private boolean isCompares() {
            return (reader.token == Reader.SIGN && reader.sign != ';') || reader.blame(Reader.CANT_STAND);
        }

        private static int leastFor(int word) {
            return word == Reader.ADD || word == Reader.LOOP ? 1 : 0;
        }

        private static int mostFor(int word) {
            if (word == Reader.STORM) {
                return Life.DRAWN_BY;
            }
            return word == Reader.LOOP || word == Reader.TWINS ? MOST_COUNTED : TOP_VALUE;
        }

        private boolean takesSet(int line) {
            int set = 0;
            // No keeper may be named twice, so there are six names and a sign at most.
            for (int turn = 0; turn <= MOST_KEEPERS; turn++) {
                reader.step();
                if (set != 0 && reader.token == Reader.SIGN) {
                    days.number[line] = set;
                    return reader.isSign(';');
                }
                int keeper = shelf.keeperNamed(reader.name);
                if (!isKeeperName(keeper)) {
                    return false;
                }
                if ((set >> keeper & 1) != 0) {
                    return reader.blame(Reader.UNFIT);
                }
                set |= 1 << keeper;
            }
            return false;
        }
    }

    /** All that a mark keeps: the shelf, what all have, hints, who is up, what is parted, tickets, the days. */
    private static final class World {
        static final int ROOT_TIMES = 31;
        static final int ROOT_BY = 1000003;
        static final int ROOT_OF_TWIN = 7;
        static final int ROOT_OF_SEEN = 3;

        final Shelf shelf = new Shelf();
        final Days days = new Days();
        final Cells have = new Cells(MOST_KEEPERS * MOST_KEYS);
        /** A hint that is not there has an empty cell. */
        final Cells hintCells = new Cells(MOST_KEEPERS * MOST_KEEPERS * MOST_KEYS);
        /** Of each keeper, for each keeper: the set of keys with hints. */
        final int[] hintKeys = new int[MOST_KEEPERS * MOST_KEEPERS];
        final Cells tickets = new Cells(MOST_TICKETS);
        final int[] ticketKey = new int[MOST_TICKETS];
        /** The latest count each keeper gave at each key: no wipe takes it, so no dot is ever given twice. */
        final int[] given = new int[MOST_KEEPERS * MOST_KEYS];
        /** Of each key, by dots: a dot is given once, so its value need not be kept with each twin. */
        final int[] values = new int[MOST_KEYS * MOST_TWINS];
        int up = 0;
        int parted = 0;
        int ticketSet = 0;

        static int cellOf(int keeper, int key) {
            return keeper * MOST_KEYS + key;
        }

        void copy(World other) {
            shelf.copy(other.shelf);
            days.copy(other.days);
            have.copyAll(other.have);
            hintCells.copyAll(other.hintCells);
            System.arraycopy(other.hintKeys, 0, hintKeys, 0, hintKeys.length);
            tickets.copyAll(other.tickets);
            System.arraycopy(other.ticketKey, 0, ticketKey, 0, MOST_TICKETS);
            System.arraycopy(other.given, 0, given, 0, given.length);
            System.arraycopy(other.values, 0, values, 0, values.length);
            up = other.up;
            parted = other.parted;
            ticketSet = other.ticketSet;
        }

        void begin(Shelf told) {
            shelf.copy(told);
            days.clear();
            have.emptyAll();
            hintCells.emptyAll();
            Arrays.fill(hintKeys, 0);
            Arrays.fill(given, 0);
            up = shelf.keeperSet();
            parted = 0;
            ticketSet = 0;
        }

        boolean isUp(int keeper) {
            return (up >> keeper & 1) != 0;
        }

        boolean areUp(int set) {
            return (set & ~up) == 0;
        }

        void setUp(int keeper, boolean is) {
            up = is ? up | 1 << keeper : up & ~(1 << keeper);
        }

        boolean reaches(int a, int b) {
            return isUp(a) && isUp(b) && (parted >> a & 1) == (parted >> b & 1);
        }

        boolean hasTicket(int ticket) {
            return (ticketSet >> ticket & 1) != 0;
        }

        /** How many have it then, or NONE if it can't be; the ticket is there, or NONE. */
        int putValue(int key, int keeper, int value, int ticket) {
            int cell = cellOf(keeper, key);
            boolean isElsewhere = ticket != NONE && ticketKey[ticket] != key;
            if (shelf.isSum(key) || isElsewhere || !canTake(key, keeper) || given[cell] >= MOST_DOTS) {
                return NONE;
            }
            if (ticket != NONE) {
                // A ticket has no twins: to join it takes away just the twins that it has seen.
                have.join(cell, tickets, ticket);
            }
            given[cell]++;
            values[key * MOST_TWINS + keeper * MOST_DOTS + given[cell] - 1] = value;
            have.give(cell, keeper, given[cell]);
            return giveOut(key, keeper);
        }

        int addPart(int key, int keeper, int n) {
            if (!shelf.isSum(key) || !canTake(key, keeper)) {
                return NONE;
            }
            have.counts[cellOf(keeper, key) * MOST_KEEPERS + keeper] += n;
            return giveOut(key, keeper);
        }

        private boolean canTake(int key, int keeper) {
            return shelf.isPlace(key, keeper) && isUp(keeper);
        }

        /** To the other places, or for them to watchers: how many have it then. */
        private int giveOut(int key, int keeper) {
            int mine = cellOf(keeper, key);
            int copies = Math.min(shelf.copies, shelf.keepers);
            int watch = copies;
            int many = 1;
            for (int k = 0; k < copies; k++) {
                int place = shelf.keeperAlong(key, k);
                if (place != keeper && reaches(keeper, place)) {
                    have.join(cellOf(place, key), have, mine);
                    many++;
                } else if (place != keeper) {
                    watch = nextWatcher(key, keeper, watch);
                    if (watch < shelf.keepers) {
                        takeHint(shelf.keeperAlong(key, watch), place, key, mine);
                        many++;
                        watch++;
                    }
                }
            }
            return many;
        }

        private int nextWatcher(int key, int keeper, int from) {
            for (int k = from; k < shelf.keepers; k++) {
                if (reaches(keeper, shelf.keeperAlong(key, k))) {
                    return k;
                }
            }
            return shelf.keepers;
        }

        private void takeHint(int watcher, int place, int key, int cell) {
            int couple = watcher * MOST_KEEPERS + place;
            hintKeys[couple] |= 1 << key;
            hintCells.join(couple * MOST_KEYS + key, have, cell);
        }

        private void dropHints(int couple) {
            if (hintKeys[couple] == 0) {
                return;
            }
            for (int key = 0; key < shelf.keys; key++) {
                hintCells.empty(couple * MOST_KEYS + key);
            }
            hintKeys[couple] = 0;
        }

        int hintCount(int keeper) {
            int many = 0;
            for (int place = 0; place < shelf.keepers; place++) {
                many += Integer.bitCount(hintKeys[keeper * MOST_KEEPERS + place]);
            }
            return many;
        }

        void wipeAll(int keeper) {
            for (int key = 0; key < shelf.keys; key++) {
                have.empty(cellOf(keeper, key));
            }
            for (int place = 0; place < shelf.keepers; place++) {
                dropHints(keeper * MOST_KEEPERS + place);
            }
        }

        int handOn() {
            int many = 0;
            for (int keeper = 0; keeper < shelf.keepers; keeper++) {
                for (int place = 0; place < shelf.keepers; place++) {
                    if (reaches(keeper, place)) {
                        many += handTo(keeper * MOST_KEEPERS + place, place);
                    }
                }
            }
            return many;
        }

        private int handTo(int couple, int place) {
            int keys = hintKeys[couple];
            for (int key = 0; key < shelf.keys; key++) {
                if ((keys >> key & 1) != 0) {
                    have.join(cellOf(place, key), hintCells, couple * MOST_KEYS + key);
                }
            }
            dropHints(couple);
            return Integer.bitCount(keys);
        }

        int placesReached(int key, int keeper) {
            int set = 0;
            for (int place = 0; place < shelf.keepers; place++) {
                if (shelf.isPlace(key, place) && reaches(keeper, place)) {
                    set |= 1 << place;
                }
            }
            return set;
        }

        void joinSet(int set, int key, Cells into, int cell) {
            into.empty(cell);
            for (int keeper = 0; keeper < shelf.keepers; keeper++) {
                if ((set >> keeper & 1) != 0) {
                    into.join(cell, have, cellOf(keeper, key));
                }
            }
        }

        /** A GET; what is told comes to the first cell of those given. False, if it can't be. */
        boolean collect(int key, int keeper, int ticket, Cells into) {
            int asked = firstReached(key, keeper);
            if (asked == 0) {
                return false;
            }
            joinSet(asked, key, into, 0);
            for (int place = 0; place < shelf.keepers; place++) {
                if ((asked >> place & 1) != 0) {
                    have.copyCell(cellOf(place, key), into, 0);
                }
            }
            if (ticket != NONE && !shelf.isSum(key)) {
                tickets.copyCounts(ticket, into, 0);
                ticketKey[ticket] = key;
                ticketSet |= 1 << ticket;
            }
            return true;
        }

        /** The set of those that a GET asks; 0 if there are not so many. */
        private int firstReached(int key, int keeper) {
            int reached = placesReached(key, keeper);
            if (Integer.bitCount(reached) < shelf.reads) {
                return 0;
            }
            int set = 0;
            int left = shelf.reads;
            for (int k = 0; k < shelf.keepers && left > 0; k++) {
                int one = 1 << shelf.keeperAlong(key, k);
                if ((reached & one) != 0) {
                    set |= one;
                    left--;
                }
            }
            return set;
        }

        /** A NIGHT: at how many keys they were not like, or NONE if it can't be: one and itself are no two. */
        int compare(int a, int b) {
            if (a == b || !reaches(a, b)) {
                return NONE;
            }
            int many = 0;
            for (int key = 0; key < shelf.keys; key++) {
                if (shelf.areBothPlaces(key, a, b) && !areLike(a, b, key)) {
                    have.join(cellOf(a, key), have, cellOf(b, key));
                    have.copyCell(cellOf(b, key), have, cellOf(a, key));
                    many++;
                }
            }
            return many;
        }

        boolean areLike(int a, int b, int key) {
            return have.isSame(cellOf(a, key), have, cellOf(b, key));
        }

        boolean isAlike(int key) {
            int copies = Math.min(shelf.copies, shelf.keepers);
            for (int k = 1; k < copies; k++) {
                if (!areLike(shelf.keeperAlong(key, 0), shelf.keeperAlong(key, k), key)) {
                    return false;
                }
            }
            return true;
        }

        boolean areAllAlike() {
            for (int key = 0; key < shelf.keys; key++) {
                if (!isAlike(key)) {
                    return false;
                }
            }
            return true;
        }

        /** At a key whose places are alike: how many graves one of them loses. */
        int buryGraves(int key) {
            int many = 0;
            for (int of = 0; of < shelf.keepers; of++) {
                int graves = gravesGivenBy(of, key);
                many += Integer.bitCount(have.bitsOf(cellOf(shelf.keeperAlong(key, 0), key), of) & graves);
                for (int keeper = 0; keeper < shelf.keepers; keeper++) {
                    if (shelf.isPlace(key, keeper)) {
                        have.twinBits[cellOf(keeper, key) * MOST_KEEPERS + of] &= ~graves;
                    }
                }
            }
            return many;
        }

        private int gravesGivenBy(int of, int key) {
            int graves = 0;
            for (int i = 0; i < given[cellOf(of, key)]; i++) {
                if (values[key * MOST_TWINS + of * MOST_DOTS + i] == GRAVE) {
                    graves |= 1 << i;
                }
            }
            return graves;
        }

        /** The values of a cell's twins, as they stand, come into a row from a place on: how many. */
        int valuesIn(Cells cells, int cell, int key, int[] row, int from) {
            int many = 0;
            for (int of = 0; of < shelf.keepers; of++) {
                int bits = cells.bitsOf(cell, of);
                for (int i = 0; i < MOST_DOTS && bits >> i != 0; i++) {
                    if ((bits >> i & 1) != 0) {
                        row[from + many] = values[key * MOST_TWINS + of * MOST_DOTS + i];
                        many++;
                    }
                }
            }
            return many;
        }

        int rootOf(int keeper) {
            long root = 0;
            for (int key = 0; key < shelf.keys; key++) {
                if (shelf.isPlace(key, keeper)) {
                    root = (root * ROOT_TIMES + weightOf(cellOf(keeper, key), key)) % ROOT_BY;
                }
            }
            return (int) root;
        }

        private long weightOf(int cell, int key) {
            if (shelf.isSum(key)) {
                return have.sumOf(cell);
            }
            long weight = (long) ROOT_OF_SEEN * have.sumOf(cell);
            for (int of = 0; of < shelf.keepers; of++) {
                int bits = have.bitsOf(cell, of);
                for (int i = 0; i < MOST_DOTS && bits >> i != 0; i++) {
                    if ((bits >> i & 1) != 0) {
                        weight += ROOT_OF_TWIN + values[key * MOST_TWINS + of * MOST_DOTS + i];
                    }
                }
            }
            return weight;
        }

        /** For each value, a grave too, the set of keepers who have it at a key, or a hint with it. */
        void noteHolders(int key, int[] holdersOf) {
            Arrays.fill(holdersOf, 0);
            for (int keeper = 0; keeper < shelf.keepers; keeper++) {
                for (int of = 0; of < shelf.keepers; of++) {
                    int bits = bitsHeld(keeper, key, of);
                    for (int i = 0; i < MOST_DOTS && bits >> i != 0; i++) {
                        if ((bits >> i & 1) != 0) {
                            holdersOf[values[key * MOST_TWINS + of * MOST_DOTS + i]] |= 1 << keeper;
                        }
                    }
                }
            }
        }

        private int bitsHeld(int keeper, int key, int of) {
            int bits = have.bitsOf(cellOf(keeper, key), of);
            for (int place = 0; place < shelf.keepers; place++) {
                bits |= hintCells.bitsOf((keeper * MOST_KEEPERS + place) * MOST_KEYS + key, of);
            }
            return bits;
        }
    }

    /** Lives the days of a world, and counts. */
    private static final class Life {
        static final int TALLIES = 6;
        static final int MISSED = 0;
        static final int DONE = 1;
        static final int NOT_DONE = 2;
        static final int GETS = 3;
        static final int HANDED = 4;
        static final int LEFT = 5;

        static final int MOST_STEPS = 300;
        /** Behind each step there are three ends at most, so this is never come to. */
        static final int MOST_TURNS = 100000;
        static final int DRAWN_BY = 16;

        final int[] tally = new int[TALLIES];
        /** NONE, until days were lived. */
        int steps = NONE;
        private final int[] loopsLeft = new int[Days.MOST_LINES];
        private int drawn = 0;

        void run(World world, int seed, Cells scratch) {
            Days days = world.days;
            Arrays.fill(tally, 0);
            steps = 0;
            drawn = seed;
            int line = 0;
            for (int turn = 0; turn < MOST_TURNS && line < days.lines; turn++) {
                if (days.word[line] == Reader.END) {
                    line = lineBehindEnd(days, line);
                } else if (steps >= MOST_STEPS) {
                    tally[LEFT] = 1;
                    return;
                } else {
                    steps++;
                    doStep(world, line, scratch);
                    line = lineBehindStep(world, line);
                }
            }
        }

        private int lineBehindEnd(Days days, int line) {
            int begin = days.mate[line];
            if (days.word[begin] != Reader.LOOP) {
                return line + 1;
            }
            loopsLeft[begin]--;
            return loopsLeft[begin] > 0 ? begin + 1 : line + 1;
        }

        private int lineBehindStep(World world, int line) {
            Days days = world.days;
            switch (days.word[line]) {
                case Reader.STOP:
                    return days.lines;
                case Reader.LOOP:
                    loopsLeft[line] = days.number[line];
                    // A loop of nothing is left at once: its turns are no steps.
                    return days.mate[line] == line + 1 ? line + 2 : line + 1;
                case Reader.ALIKE:
                case Reader.UP:
                case Reader.TWINS:
                    return holds(world, line) ? line + 1 : days.mate[line] + 1;
                default:
                    return line + 1;
            }
        }

        private boolean holds(World world, int line) {
            Days days = world.days;
            if (days.word[line] == Reader.ALIKE) {
                return world.isAlike(days.key[line]);
            }
            if (days.word[line] == Reader.UP) {
                return world.isUp(days.keeper[line]);
            }
            int many = world.have.twinCount(World.cellOf(days.keeper[line], days.key[line]));
            if (days.other[line] == '<') {
                return many < days.number[line];
            }
            return days.other[line] == '>' ? many > days.number[line] : many == days.number[line];
        }

        private void doStep(World world, int line, Cells scratch) {
            Days days = world.days;
            int key = days.key[line];
            int keeper = days.keeper[line];
            int number = days.number[line];
            switch (days.word[line]) {
                case Reader.PUT:
                    countTold(world, world.putValue(key, keeper, number, ticketFor(world, key)));
                    break;
                case Reader.STRIKE:
                    countTold(world, world.putValue(key, keeper, GRAVE, ticketFor(world, key)));
                    break;
                case Reader.ADD:
                    countTold(world, world.addPart(key, keeper, number));
                    break;
                case Reader.GET:
                    tally[world.collect(key, keeper, 0, scratch) ? GETS : MISSED]++;
                    break;
                case Reader.FALL:
                    world.setUp(keeper, false);
                    break;
                case Reader.RISE:
                    world.setUp(keeper, true);
                    break;
                case Reader.WIPE:
                    world.wipeAll(keeper);
                    break;
                case Reader.PART:
                    world.parted = number;
                    break;
                case Reader.HEAL:
                    world.parted = 0;
                    break;
                case Reader.HAND:
                    tally[HANDED] += world.handOn();
                    break;
                case Reader.NIGHT:
                    tally[MISSED] += world.compare(keeper, days.other[line]) == NONE ? 1 : 0;
                    break;
                case Reader.STORM:
                    drawStorm(world, number);
                    break;
                default:
                    break;
            }
        }

        private static int ticketFor(World world, int key) {
            return world.hasTicket(0) && world.ticketKey[0] == key ? 0 : NONE;
        }

        private void countTold(World world, int many) {
            if (many == NONE) {
                tally[MISSED]++;
            } else {
                tally[many >= world.shelf.writes ? DONE : NOT_DONE]++;
            }
        }

        private void drawStorm(World world, int strength) {
            for (int keeper = 0; keeper < world.shelf.keepers; keeper++) {
                drawn = (drawn * 2801 + 12413) % 65536;
                world.setUp(keeper, drawn / 8 % DRAWN_BY >= strength);
            }
        }
    }

    /** What a reader may be told: a row of values for each choice of places. */
    private static final class Choices {
        private final Cells joined = new Cells(1);
        private final int[] rows = new int[MOST_CHOICES * MOST_TWINS];
        private final int[] lengths = new int[MOST_CHOICES];
        int many = 0;

        /** False, if the keeper does not reach so many places. */
        boolean fill(World world, int key, int keeper) {
            many = 0;
            int reached = world.placesReached(key, keeper);
            for (int set = 1; set <= reached && many < MOST_CHOICES; set++) {
                if ((set & ~reached) == 0 && Integer.bitCount(set) == world.shelf.reads) {
                    world.joinSet(set, key, joined, 0);
                    keepRow(world, key);
                }
            }
            return many > 0;
        }

        private void keepRow(World world, int key) {
            int from = many * MOST_TWINS;
            if (world.shelf.isSum(key)) {
                rows[from] = joined.sumOf(0);
                lengths[many] = 1;
            } else {
                lengths[many] = world.valuesIn(joined, 0, key, rows, from);
            }
            many++;
        }

        int unlikeRows() {
            int count = 0;
            for (int i = 0; i < many; i++) {
                if (isFirstSuch(i)) {
                    count++;
                }
            }
            return count;
        }

        private boolean isFirstSuch(int i) {
            for (int j = 0; j < i; j++) {
                if (areSameRows(i, j)) {
                    return false;
                }
            }
            return true;
        }

        private boolean areSameRows(int i, int j) {
            if (lengths[i] != lengths[j]) {
                return false;
            }
            for (int k = 0; k < lengths[i]; k++) {
                if (rows[i * MOST_TWINS + k] != rows[j * MOST_TWINS + k]) {
                    return false;
                }
            }
            return true;
        }

        int rowsWith(int value) {
            int count = 0;
            for (int i = 0; i < many; i++) {
                if (isIn(value, i)) {
                    count++;
                }
            }
            return count;
        }

        private boolean isIn(int value, int i) {
            for (int k = 0; k < lengths[i]; k++) {
                if (rows[i * MOST_TWINS + k] == value) {
                    return true;
                }
            }
            return false;
        }
    }

    /**
     * The fewest nights behind which a key is alike. Joining never takes back what was joined, so what a place
     * has behind some nights is told by the set of places whose first state it took in; and alike are all only
     * when each has as much as all together.
     */
    private static final class NightSearch {
        static final int SETS = 1 << MOST_KEEPERS;

        private final Cells joins = new Cells(SETS);
        private final boolean[] isWhole = new boolean[SETS];
        private final int[] tookIn = new int[MOST_KEEPERS];
        private final int[] reachedBy = new int[MOST_KEEPERS];
        private int keepers = 0;
        private int placeSet = 0;

        /** NONE, if there are more than can be. */
        int fewest(World world, int key) {
            begin(world, key);
            for (int many = 0; many <= MOST_NIGHTS; many++) {
                if (settles(this, many)) {
                    return many;
                }
            }
            return NONE;
        }

        private void begin(World world, int key) {
            keepers = world.shelf.keepers;
            placeSet = world.shelf.placeSet[key];
            for (int keeper = 0; keeper < keepers; keeper++) {
                tookIn[keeper] = 1 << keeper;
                reachedBy[keeper] = (placeSet >> keeper & 1) != 0 ? world.placesReached(key, keeper) : 0;
            }
            for (int set = 0; set <= placeSet; set++) {
                if ((set & ~placeSet) == 0) {
                    world.joinSet(set, key, joins, set);
                }
            }
            for (int set = 0; set <= placeSet; set++) {
                isWhole[set] = (set & ~placeSet) == 0 && joins.isSame(set, joins, placeSet);
            }
        }

        private static boolean settles(NightSearch search, int nightsLeft) {
            int lacking = search.lackingPlaces();
            if (lacking == 0) {
                return true;
            }
            // One night makes two places whole at most.
            if (lacking > 2 * nightsLeft) {
                return false;
            }
            for (int a = 0; a < search.keepers; a++) {
                for (int b = a + 1; b < search.keepers; b++) {
                    if (search.isOfUse(a, b) && search.settlesBehind(a, b, nightsLeft - 1)) {
                        return true;
                    }
                }
            }
            return false;
        }

        private boolean settlesBehind(int a, int b, int nightsLeft) {
            int hadA = tookIn[a];
            int hadB = tookIn[b];
            tookIn[a] = hadA | hadB;
            tookIn[b] = hadA | hadB;
            boolean does = settles(this, nightsLeft);
            tookIn[a] = hadA;
            tookIn[b] = hadB;
            return does;
        }

        private int lackingPlaces() {
            int many = 0;
            for (int keeper = 0; keeper < keepers; keeper++) {
                if ((placeSet >> keeper & 1) != 0 && !isWhole[tookIn[keeper]]) {
                    many++;
                }
            }
            return many;
        }

        private boolean isOfUse(int a, int b) {
            return (reachedBy[a] >> b & 1) != 0 && tookIn[a] != tookIn[b];
        }
    }
}
