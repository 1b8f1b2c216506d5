/** Edges of the tape, the SHELF's text and the ring: part 1 of the terms, promises 9, 10 and 12 to 16. */
final class ShelfEdges {
    static final String[] OWN = {"places", "reads", "writes", "keeper", "at", "key", "sum", "put", "strike", "add", "get",
        "fall", "rise", "wipe", "part", "heal", "hand", "night", "storm", "when", "alike", "up", "twins", "loop", "end",
        "stop"};
    private static final String SIX_KEEPERS =
        "keeper a at 0;keeper b at 1;keeper c at 2;keeper d at 3;keeper e at 4;keeper f at 5;";
    private static final String SIX_KEYS = "key u at 0;key v at 1;key w at 2;key x at 3;key y at 4;key z at 5;";

    private ShelfEdges() {
    }

    static void run(Edge e) {
        feeds(e);
        feedBytes(e);
        shelfBytes(e);
        texts900(e);
        longestTokens(e);
        blanksAndSigns(e);
        numbers(e);
        parts(e);
        sums(e);
        names(e);
        namesTaken(e);
        atMostSix(e);
        ats(e);
        noTwoKeepers(e);
        numbered(e);
        copies(e);
        readsAndWrites(e);
        rows(e);
        places(e);
        faultKinds(e);
        faultOrder(e);
        behindFault(e);
        taken(e);
        otherPlaces(e);
        faultTells(e);
        told(e);
        rowRefusals(e);
        reaches(e);
    }

    private static void taken(Edge e, String text, int keys) {
        TwinShelf x = Edge.rich();
        e.fine(x, "shelf of '" + text + "'", Check.shelf(x, text), keys);
        e.due("fault(0)", x.fault(0), 0);
        e.due("fault(1)", x.fault(1), -1);
    }

    private static void fault(Edge e, String text, int kind, int place) {
        e.faulty(Edge::rich, "shelf of '" + text + "'", x -> Check.shelf(x, text), kind, place);
    }

    private static int blanks(TwinShelf x) {
        return x.feed(0x20202020, 0x20202020, 0x20202020, 0x20202020, 0x20202020);
    }

    private static TwinShelf fed(int feeds) {
        TwinShelf x = Edge.rich();
        for (int i = 0; i < feeds; i++) {
            blanks(x);
        }
        return x;
    }

    private static void feeds(Edge e) {
        e.says(9, "how many it has; NONE if there would be more than 900.");
        TwinShelf x = Edge.rich();
        for (int i = 1; i <= 45; i++) {
            e.due("feed() " + i, blanks(x), 20 * i);
        }
        e.due("feed() 46", blanks(x), -1);
        e.due("feed() 47", blanks(x), -1);
        TwinShelf y = fed(45);
        e.due("feed() of others beyond 900", y.feed(-1, -1, -1, -1, -1), -1);
        e.same("feed() beyond 900 changes what is told", Probe.quiet(y), Probe.quiet(fed(45)));
        e.fine(y, "feed() beyond 900 changes no byte", y.shelf(900), 0);
        e.due("feed() to an empty tape", blanks(y), 20);
    }

    private static void feedBytes(Edge e) {
        e.says(9, "Twenty bytes come behind those on the tape, the highest of each int first");
        for (int place = 0; place < 20; place++) {
            for (int odd : new int[] {0, 1, 127, 128, 255}) {
                int[] ints = {0x20202020, 0x20202020, 0x20202020, 0x20202020, 0x20202020};
                int shift = 24 - 8 * (place % 4);
                ints[place / 4] = (ints[place / 4] & ~(255 << shift)) | odd << shift;
                TwinShelf x = new TwinShelf();
                blanks(x);
                x.feed(ints[0], ints[1], ints[2], ints[3], ints[4]);
                e.due("a byte " + odd, x.shelf(40), -1);
                e.due("its kind", x.fault(0), 1);
                e.due("its place", x.fault(1), 20 + place);
            }
        }
    }

    private static void shelfBytes(Edge e) {
        e.says(10, "(1: n below 0, or more than the tape has, too; 9: the old one stays).");
        for (int odd : new int[] {-1, 41, 900, 901, Integer.MIN_VALUE, Integer.MAX_VALUE}) {
            e.not(Edge::richFed, "shelf(" + odd + ") of 40", x -> x.shelf(odd), 1);
        }
        e.not(Edge::rich, "shelf(1) of none", x -> x.shelf(1), 1);
        e.not(() -> fed(45), "shelf(901) of 900", x -> x.shelf(901), 1);
        e.faulty(Edge::richFed, "shelf(40) of 40, the text ends too soon", x -> x.shelf(40), 2, 40);
        e.faulty(Edge::richFed, "shelf(39) of 40", x -> x.shelf(39), 2, 39);
        e.says(10, "The first n bytes of the tape (which is empty then) are the SHELF: how many KEYS");
        int[] ends = {0, 14, 29, 30};
        int[] keepers = {0, 1, 2, 2};
        for (int i = 0; i < ends.length; i++) {
            TwinShelf x = Edge.richFed();
            e.fine(x, "shelf(" + ends[i] + ") of 40", x.shelf(ends[i]), 0);
            e.fine(x, "told(3)", x.told(3), keepers[i]);
            e.due("status() of shelf(1)", x.shelf(1), -1);
            e.due("the tape is empty then", blanks(x), 20);
        }
        for (int keys = 0; keys <= 6; keys++) {
            TwinShelf x = Edge.rich();
            e.fine(x, keys + " KEYS", Check.shelf(x, SIX_KEYS.substring(0, 11 * keys)), keys);
            e.fine(x, "told(4)", x.told(4), keys);
        }
    }

    private static void texts900(Edge e) {
        e.terms("A SHELF is a TEXT of at most 900 bytes.");
        TwinShelf x = new TwinShelf();
        e.fine(x, "900 blanks", Check.shelf(x, " ".repeat(900)), 0);
        e.fine(x, "a KEY at the end of 900 bytes", Check.shelf(x, " ".repeat(889) + "key x at 1;"), 1);
        e.fine(x, "and of 899", Check.shelf(x, " ".repeat(888) + "key x at 1;"), 1);
        fault(e, " ".repeat(899) + "!", 1, 899);
        fault(e, " ".repeat(899) + "k", 2, 899);
        fault(e, " ".repeat(897) + "key", 2, 900);
        fault(e, " ".repeat(890) + "key x at 1", 2, 900);
        fault(e, "key" + " ".repeat(897), 2, 900);
        fault(e, "k".repeat(900), 2, 0);
        fault(e, "key " + "k".repeat(896), 2, 4);
        fault(e, "1".repeat(900), 1, 0);
    }

    private static void longestTokens(Edge e) {
        e.terms("TOKENS, as long as they go, between them blanks (10, 32)");
        taken(e, "key x at1;", 1);
        taken(e, "key x at 1sum;key y at 2 sum ;", 2);
        taken(e, "places3reads2writes1;", 0);
        taken(e, "key\nx\nat\n1\n;\n", 1);
        taken(e, "  key \n x  at \n\n 1 ; ", 1);
        fault(e, "keyx at 1;", 2, 0);
        fault(e, "key xat 1;", 2, 8);
        fault(e, "keeper key at 1;", 2, 7);
        fault(e, "keeperk at 1;", 2, 0);
        fault(e, "key x at 1 2;", 2, 11);
        fault(e, "key x at 1summ;", 2, 10);
    }

    /** Each byte between a NAME and the word behind it. */
    private static void blanksAndSigns(Edge e) {
        e.terms("WORDS (small letters), NUMBERS (1 to 4 digits), SIGNS ; < > =");
        for (int b = 0; b < 256; b++) {
            TwinShelf x = new TwinShelf();
            int keys = Check.shelf(x, "key x" + (char) b + "at 1;");
            boolean isBlank = b == 10 || b == 32;
            boolean isLetter = b >= 97 && b <= 122;
            boolean isOther = b >= 48 && b <= 57 || b == 59 || b == 60 || b == 61 || b == 62;
            e.due("byte " + b, keys, isBlank ? 1 : -1);
            e.due("fault(0) of byte " + b, x.fault(0), isBlank ? 0 : isLetter || isOther ? 2 : 1);
            // with a letter the NAME is longer, and the NUMBER can't stand behind it
            e.due("fault(1) of byte " + b, x.fault(1), isBlank ? -1 : isLetter ? 9 : 5);
        }
        for (char first : new char[] {'a', 'z'}) {
            taken(e, "key " + first + " at 1;", 1);
        }
        for (char odd : new char[] {'a' - 1, 'z' + 1, 'A', 'Z', '0' - 1, '9' + 1, ';' - 1, '>' + 1, 9, 11, 13, 31, 33, 0, 255}) {
            fault(e, "key " + odd + " at 1;", 1, 4);
        }
        for (char sign : new char[] {';', '<', '>', '='}) {
            fault(e, "key " + sign + " at 1;", 2, 4);
        }
    }

    private static void numbers(Edge e) {
        e.terms("1 no TOKEN begins so (a NUMBER of 5 digits and more: at its first).");
        taken(e, "key x at 1;", 1);
        taken(e, "key x at 0001;", 1);
        taken(e, "key x at 0999;", 1);
        taken(e, "key x at 0000;", 1);
        fault(e, "key x at 00001;", 1, 9);
        fault(e, "key x at 10000;", 1, 9);
        fault(e, "key x at 000001;", 1, 9);
        fault(e, "key x at 4294967297;", 1, 9);
        fault(e, "key x at 1000;", 4, 9);
        fault(e, "key x at 9999;", 4, 9);
        fault(e, "00001", 1, 0);
        fault(e, "0001", 2, 0);
        fault(e, "key 12345 at 1;", 1, 4);
        fault(e, "key 1234 at 1;", 2, 4);
        fault(e, "key x at 1 12345;", 1, 11);
        fault(e, "-1", 1, 0);
    }

    private static void parts(Edge e) {
        e.terms("SHELF: {PART}. PART: places NUMBER reads NUMBER writes NUMBER ; or keeper NAME at NUMBER ;"
            + " or key NAME at NUMBER [sum] ;");
        taken(e, "", 0);
        taken(e, " ", 0);
        taken(e, "places 3 reads 1 writes 1;", 0);
        String[][] items = {{"places", "3", "reads", "1", "writes", "1", ";"}, {"keeper", "a", "at", "7", ";"},
            {"key", "x", "at", "7", ";"}, {"key", "x", "at", "7", "sum", ";"}};
        for (String[] part : items) {
            for (int i = 0; i < part.length; i++) {
                StringBuilder ahead = new StringBuilder();
                for (int j = 0; j < i; j++) {
                    ahead.append(part[j]).append(' ');
                }
                if (i > 0) {
                    // the text ends there, or something else stands there
                    fault(e, ahead.toString(), 2, ahead.length());
                    fault(e, ahead + "<", 2, ahead.length());
                }
                boolean isWord = part[i].charAt(0) >= 'a';
                boolean isName = part[i].equals("a") || part[i].equals("x");
                fault(e, ahead + (isWord ? "5" : part[i].equals(";") ? "5 ;" : "a"), 2, ahead.length());
                fault(e, ahead + (isName ? "heal" : "strike"), 2, ahead.length());
            }
        }
        fault(e, ";", 2, 0);
        fault(e, "key x at 1;;", 2, 11);
        fault(e, "sum", 2, 0);
        fault(e, "reads 1;", 2, 0);
        fault(e, "hand;", 2, 0);
    }

    private static void sums(Edge e) {
        e.terms("({ } any number of times, [ ] perhaps.)");
        TwinShelf x = new TwinShelf();
        e.fine(x, "shelf", Check.shelf(x, "keeper a at 1;key x at 1;key y at 1 sum;key z at 1;"), 3);
        e.due("partOf(0, 0, 0)", x.partOf(0, 0, 0), -1);
        e.due("status()", x.status(), 7);
        e.fine(x, "partOf(0, 1, 0)", x.partOf(0, 1, 0), 0);
        e.due("partOf(0, 2, 0)", x.partOf(0, 2, 0), -1);
        StringBuilder all = new StringBuilder("keeper a at 1;");
        for (char name = 'u'; name <= 'z'; name++) {
            all.append("key ").append(name).append(" at 1 sum;");
        }
        e.fine(x, "six sums", Check.shelf(x, all.toString()), 6);
        for (int key = 0; key < 6; key++) {
            e.fine(x, "partOf(0, " + key + ", 0)", x.partOf(0, key, 0), 0);
        }
        // what was a sum in the SHELF ahead need not be one
        e.fine(x, "no sums", Check.shelf(x, "keeper a at 1;" + SIX_KEYS), 6);
        for (int key = 0; key < 6; key++) {
            e.fine(x, "put(" + key + ", 0, 1, -1)", x.put(key, 0, 1, -1), 1);
        }
        fault(e, "key x at 1 sum sum;", 2, 15);
        fault(e, "keeper a at 1 sum;", 2, 14);
    }

    private static void names(Edge e) {
        e.terms("NAME: a WORD of 1 to 8 letters that is none of places, reads, writes, keeper, at, key, sum, put, strike,"
            + " add, get, fall, rise, wipe, part, heal, hand, night, storm, when, alike, up, twins, loop, end, stop.");
        for (String word : OWN) {
            fault(e, "key " + word + " at 1;", 2, 4);
            fault(e, "keeper " + word + " at 1;", 2, 7);
            taken(e, "key " + word + "x at 1;", 1);
            taken(e, "key x" + word + " at 1;", 1);
            taken(e, "key " + word.substring(0, word.length() - 1) + " at 1;", 1);
            taken(e, "keeper " + word.substring(1) + " at 1;", 0);
        }
        e.terms("a WORD of 9 letters and more where a NAME must stand");
        for (int letters = 1; letters <= 8; letters++) {
            taken(e, "key " + "z".repeat(letters) + " at 1;keeper " + "a".repeat(letters) + " at 1;", 1);
        }
        for (int letters = 9; letters <= 12; letters++) {
            fault(e, "key " + "z".repeat(letters) + " at 1;", 2, 4);
            fault(e, "keeper " + "a".repeat(letters) + " at 1;", 2, 7);
        }
    }

    private static void namesTaken(Edge e) {
        e.terms("One NAME is of one thing alone.");
        fault(e, "keeper a at 1;keeper a at 2;", 3, 21);
        fault(e, "keeper a at 1;key a at 2;", 3, 18);
        fault(e, "key a at 1;keeper a at 2;", 3, 18);
        fault(e, "key a at 1;key a at 2;", 3, 15);
        fault(e, "key a at 1;key b at 1;key c at 1;key a at 2;", 3, 37);
        fault(e, "key abcdefgh at 1;key abcdefgh at 2;", 3, 22);
        taken(e, "key abcdefgh at 1;key abcdefgi at 2;key bbcdefgh at 2;key abcdefg at 3;", 4);
        taken(e, "key a at 1;key aa at 1;key aaa at 1;keeper aaaa at 1;keeper aaaaa at 2;keeper b at 3;", 3);
        // the NAMES of the SHELF ahead are free again
        TwinShelf x = Check.with("keeper a at 1;key x at 1;");
        e.fine(x, "the same NAMES once more", Check.shelf(x, "keeper x at 1;key a at 1;"), 1);
    }

    private static void atMostSix(Edge e) {
        e.terms("KEEPERS, at most 6, and KEYS, at most 6");
        for (int many = 0; many <= 6; many++) {
            TwinShelf x = Edge.rich();
            e.fine(x, many + " KEEPERS", Check.shelf(x, SIX_KEEPERS.substring(0, 14 * many)), 0);
            e.fine(x, "told(3)", x.told(3), many);
            e.fine(x, "told(5)", x.told(5), (1 << many) - 1);
        }
        taken(e, SIX_KEEPERS + SIX_KEYS, 6);
        e.terms("6 one more keeper, key than there may be (at that WORD).");
        fault(e, SIX_KEEPERS + "keeper g at 6;", 6, 84);
        fault(e, SIX_KEEPERS + "keeper a at 0;", 6, 84);
        fault(e, SIX_KEEPERS + "keeper", 6, 84);
        fault(e, SIX_KEYS + "key g at 6;", 6, 66);
        fault(e, SIX_KEYS + "key", 6, 66);
        fault(e, SIX_KEYS + SIX_KEEPERS + "key a at 1;", 6, 150);
        fault(e, SIX_KEYS + SIX_KEEPERS + "keeper !", 6, 150);
        taken(e, SIX_KEYS + "keeper a at 1;", 6);
        taken(e, SIX_KEEPERS + "key x at 1;", 1);
    }

    private static void ats(Edge e) {
        e.terms("stand AT 0 to 999 of a ring");
        for (String at : new String[] {"0", "1", "998", "999"}) {
            taken(e, "keeper a at " + at + ";key x at " + at + ";", 1);
        }
        e.terms("4 a NUMBER that can't be.");
        fault(e, "keeper a at 1000;", 4, 12);
        fault(e, "keeper a at 9999;", 4, 12);
        fault(e, "key x at 1000;", 4, 9);
        fault(e, "key x at 1000 sum;", 4, 9);
    }

    private static void noTwoKeepers(Edge e) {
        e.terms("no two KEEPERS at one number");
        taken(e, "keeper a at 5;keeper b at 4;keeper c at 6;", 0);
        taken(e, "keeper a at 0;keeper b at 999;", 0);
        taken(e, "keeper a at 5;key x at 5;key y at 5;", 2);
        e.terms("a KEEPER AT a number where one stands (at it).");
        fault(e, "keeper a at 5;keeper b at 5;", 5, 26);
        fault(e, "keeper a at 5;keeper b at 0005;", 5, 26);
        fault(e, "keeper a at 0;keeper b at 0;", 5, 26);
        fault(e, "keeper a at 999;keeper b at 999;", 5, 28);
        fault(e, "keeper a at 5;keeper b at 6;keeper c at 7;keeper d at 5;", 5, 54);
        fault(e, "keeper a at 5;keeper b at 5", 5, 26);
    }

    private static void numbered(Edge e) {
        e.terms("all are numbered as they are told.");
        TwinShelf x = Check.with("key y at 900;keeper b at 20;key x at 0;keeper a at 10;places 1 reads 1 writes 1;"
            + "keeper c at 30;key w at 15;");
        e.fine(x, "row(0, 0): a, told second", x.row(0, 0), 1);
        e.fine(x, "row(0, 1): b, told first", x.row(0, 1), 0);
        e.fine(x, "row(0, 2): c, told third", x.row(0, 2), 2);
        e.fine(x, "places(0) of y, told first", x.places(0), 2);
        e.fine(x, "places(1) of x, told second", x.places(1), 2);
        e.fine(x, "places(2) of w, told third", x.places(2), 1);
    }

    private static void copies(Edge e) {
        e.terms("N PLACES (1 to 6; 3 without)");
        for (int n = 1; n <= 6; n++) {
            TwinShelf x = Edge.rich();
            e.fine(x, n + " PLACES", Check.shelf(x, "places " + n + " reads 1 writes 1;"), 0);
            e.fine(x, "told(0)", x.told(0), n);
        }
        fault(e, "places 0 reads 1 writes 1;", 4, 7);
        fault(e, "places 7 reads 1 writes 1;", 4, 7);
        fault(e, "places 9999 reads 1 writes 1;", 4, 7);
        fault(e, "places 0000 reads 1 writes 1;", 4, 7);
        TwinShelf x = Check.with("places 5 reads 4 writes 4;");
        e.fine(x, "a SHELF without", Check.shelf(x, "keeper a at 1;"), 0);
        e.fine(x, "told(0)", x.told(0), 3);
        e.fine(x, "told(1)", x.told(1), 1);
        e.fine(x, "told(2)", x.told(2), 1);
        e.terms("5 places told already (at that WORD)");
        fault(e, "places 1 reads 1 writes 1;places 1 reads 1 writes 1;", 5, 26);
        fault(e, "places 1 reads 1 writes 1;places", 5, 26);
        fault(e, "places 3 reads 1 writes 1;keeper a at 1;places", 5, 40);
        taken(e, "keeper a at 1;key x at 1;places 3 reads 1 writes 1;", 1);
    }

    private static void readsAndWrites(Edge e) {
        e.terms("R reads, W writes (1 to N each; 1 without).");
        for (int n = 1; n <= 6; n++) {
            for (int k = 1; k <= n; k++) {
                TwinShelf x = new TwinShelf();
                e.fine(x, "shelf", Check.shelf(x, "places " + n + " reads " + k + " writes " + (n + 1 - k) + ";"), 0);
                e.fine(x, "told(1)", x.told(1), k);
                e.fine(x, "told(2)", x.told(2), n + 1 - k);
            }
            fault(e, "places " + n + " reads 0 writes 1;", 4, 15);
            fault(e, "places " + n + " reads " + (n + 1) + " writes 1;", 4, 15);
            fault(e, "places " + n + " reads 1 writes 0;", 4, 24);
            fault(e, "places " + n + " reads 1 writes " + (n + 1) + ";", 4, 24);
        }
        // N is told, not how many KEEPERS there are
        taken(e, "places 6 reads 6 writes 6;keeper a at 1;", 0);
    }

    private static void row(Edge e, TwinShelf x, int key, int... keepers) {
        for (int k = 0; k < keepers.length; k++) {
            e.fine(x, "row(" + key + ", " + k + ")", x.row(key, k), keepers[k]);
        }
    }

    private static void rows(Edge e) {
        e.terms("The ROW of a KEY: all KEEPERS by their numbers AT, from its own one on, behind 999 from 0 on.");
        TwinShelf x = Check.with("keeper a at 0;keeper b at 1;keeper c at 499;keeper d at 500;keeper e at 998;keeper f at 999;"
            + "key u at 0;key v at 1;key w at 2;key x at 500;key y at 999;key z at 998;");
        row(e, x, 0, 0, 1, 2, 3, 4, 5);
        row(e, x, 1, 1, 2, 3, 4, 5, 0);
        row(e, x, 2, 2, 3, 4, 5, 0, 1);
        row(e, x, 3, 3, 4, 5, 0, 1, 2);
        row(e, x, 4, 5, 0, 1, 2, 3, 4);
        row(e, x, 5, 4, 5, 0, 1, 2, 3);
        x = Check.with("keeper a at 7;key u at 6;key v at 7;key w at 8;");
        row(e, x, 0, 0);
        row(e, x, 1, 0);
        row(e, x, 2, 0);
    }

    private static void places(Edge e) {
        e.terms("Its PLACES are the first N of its ROW (all, if there are fewer), its WATCH are the others.");
        for (int n = 1; n <= 6; n++) {
            for (int keepers = 0; keepers <= 6; keepers++) {
                TwinShelf x = Check.with("places " + n + " reads 1 writes 1;" + SIX_KEEPERS.substring(0, 14 * keepers)
                    + "key x at 0;key y at 6;");
                int due = (1 << Math.min(n, keepers)) - 1;
                e.fine(x, "places(0), " + n + " of " + keepers, x.places(0), due);
                e.fine(x, "places(1), behind the last one", x.places(1), due);
            }
        }
        e.says(15, "The set of PLACES of a KEY (1).");
        TwinShelf x = Check.with(Edge.FIVE);
        e.fine(x, "places(0)", x.places(0), 7);
        e.fine(x, "places(1)", x.places(1), 1 | 8 | 16);
        e.fine(x, "places(2)", x.places(2), 4 | 8 | 16);
        for (int odd : new int[] {-1, 3, 6, Integer.MIN_VALUE, Integer.MAX_VALUE}) {
            e.not(Edge::rich, "places(" + odd + ")", y -> y.places(odd), 1);
        }
    }

    private static void faultKinds(Edge e) {
        e.terms("2 it can't stand there (the end: the text's length;");
        fault(e, "keeper", 2, 6);
        fault(e, "keeper ", 2, 7);
        fault(e, "keeper a at 1 \n ", 2, 16);
        fault(e, "keeper a at 1", 2, 13);
        fault(e, "keeper 1", 2, 7);
        e.terms("3 a new NAME that is taken.");
        fault(e, "keeper a at 1;key a", 3, 18);
        // a NAME with no AT behind it is not taken yet, so the text ends ahead of a second one
        fault(e, "keeper a keeper a", 2, 9);
    }

    private static void faultOrder(Edge e) {
        e.terms("FAULTS, the first along the text (of one TOKEN the least kind)");
        fault(e, "keeper a at 1000;key !", 4, 12);
        fault(e, "key x at 1;key x at 1000;!", 3, 15);
        fault(e, "places 9 reads 12345 writes", 4, 7);
        fault(e, "keeper a at 5;keeper b at 5;keeper a at 1000;", 5, 26);
        fault(e, "key a at 1;keeper b at 2;keeper a at 2;", 3, 32);
        // 1 ahead of 4: five digits where a NUMBER must stand; 1 ahead of 2 where it could not
        fault(e, "keeper a at 12345;", 1, 12);
        fault(e, "12345;", 1, 0);
        // 2 ahead of 3, 5, 6: the word can't stand there at all
        fault(e, "keeper a at 1;keeper at at 2;", 2, 21);
        fault(e, "places 3 reads 1 writes places", 2, 24);
        fault(e, "places 3 reads 1 writes 1 places", 2, 26);
        fault(e, SIX_KEEPERS + "key keeper", 2, 88);
        fault(e, SIX_KEYS + "keeper key", 2, 73);
        fault(e, SIX_KEYS + "keys", 2, 66);
    }

    private static void taken(Edge e) {
        e.terms("A SHELF that is taken is there in place of that ahead; all KEEPERS are UP and have nothing, nothing is PARTED,"
            + " no TICKET is there, there are no DAYS.");
        TwinShelf x = Edge.rich();
        e.fine(x, "the same SHELF", Check.shelf(x, Edge.FIVE), 3);
        e.same("all is new", Probe.kept(x), Probe.kept(Check.with(Edge.FIVE)));
        e.fine(x, "hand()", x.hand(), 0);
        for (int value : new int[] {5, 6, 7, 8, 9, 1000}) {
            e.fine(x, "holders(0, " + value + ")", x.holders(0, value), 0);
        }
        e.due("live(0)", x.live(0), -1);
        e.due("status()", x.status(), 6);
        e.due("agreed(0, 1)", x.agreed(0, 1), false);
        e.due("status()", x.status(), 6);
        e.fine(x, "put", x.put(0, 0, 1, -1), 3);
        e.fine(x, "the count begins anew", x.twin(0, 0, 0, 2), 1);
        TwinShelf y = Edge.rich();
        e.fine(y, "a SHELF of nothing", y.shelf(0), 0);
        e.fine(y, "told(3)", y.told(3), 0);
        e.fine(y, "told(5)", y.told(5), 0);
        e.due("hints(0)", y.hints(0), -1);
        e.due("status()", y.status(), 1);
    }

    /** What a text with a FAULT had begun is forgotten: the next text begins anew. */
    private static void behindFault(Edge e) {
        e.says(10, "9: the old one stays");
        String[] begun = {"places 5 reads 4 writes 4;", SIX_KEEPERS, SIX_KEYS.replace(";", " sum;"),
            "places 2 reads 2 writes 2;" + SIX_KEYS + SIX_KEEPERS};
        for (String text : begun) {
            TwinShelf x = Edge.rich();
            e.due("shelf of '" + text + "!'", Check.shelf(x, text + "!"), -1);
            e.fine(x, "told(0) of the old one", x.told(0), 3);
            e.fine(x, "told(3) of the old one", x.told(3), 5);
            e.fine(x, "told(4) of the old one", x.told(4), 3);
            e.fine(x, "places(1) of the old one", x.places(1), 1 | 8 | 16);
            e.fine(x, "all that goes in", Check.shelf(x, SIX_KEYS + SIX_KEEPERS), 6);
            e.fine(x, "told(0)", x.told(0), 3);
            e.fine(x, "told(1)", x.told(1), 1);
            e.fine(x, "told(2)", x.told(2), 1);
            e.fine(x, "no sum", x.put(0, 0, 1, -1), 3);
            e.due("shelf of '" + text + "!'", Check.shelf(x, text + "!"), -1);
            e.fine(x, "places told once", Check.shelf(x, "places 4 reads 1 writes 1;"), 0);
        }
    }

    private static void otherPlaces(Edge e) {
        e.terms("A SHELF that is taken is there in place of that ahead");
        TwinShelf x = Check.with(SIX_KEEPERS + SIX_KEYS);
        int[] dueThree = {7, 14, 28, 56, 49, 35};
        int[] dueOne = {32, 1, 2, 4, 8, 16};
        for (int turn = 0; turn < 2; turn++) {
            for (int key = 0; key < 6; key++) {
                e.fine(x, "places(" + key + ")", x.places(key), dueThree[key]);
                e.fine(x, "row(" + key + ", 0)", x.row(key, 0), key);
            }
            e.fine(x, "the other SHELF", Check.shelf(x, "places 1 reads 1 writes 1;keeper b at 1;keeper c at 2;keeper d at 3;"
                + "keeper e at 4;keeper f at 5;keeper a at 0;key z at 999;key u at 1;key v at 2;key w at 3;key x at 4;key y at 5;"), 6);
            for (int key = 0; key < 6; key++) {
                e.fine(x, "places(" + key + ") of the other", x.places(key), dueOne[key]);
            }
            e.fine(x, "load(5)", x.load(5), 1);
            e.fine(x, "the first SHELF again", Check.shelf(x, SIX_KEEPERS + SIX_KEYS), 6);
        }
    }

    private static void faultTells(Edge e) {
        e.says(12, "Of the latest shelf() or days() with STATUS 0 or 9, what 0: the FAULT (0 without one), 1: its place"
            + " (NONE without).");
        TwinShelf x = Edge.rich();
        Check.shelf(x, "key x at 1000;");
        e.due("fault(0)", x.fault(0), 4);
        e.due("fault(1)", x.fault(1), 9);
        x.shelf(1);
        e.due("fault(0) behind a STATUS 1", x.fault(0), 4);
        e.due("fault(1) behind a STATUS 1", x.fault(1), 9);
        x.days(1);
        e.due("fault(0) behind a STATUS 1 of days()", x.fault(0), 4);
        Check.days(x, "heal");
        e.due("fault(0) of days()", x.fault(0), 2);
        e.due("fault(1) of days()", x.fault(1), 4);
        x.mark();
        x.days(0);
        e.due("fault(0) without", x.fault(0), 0);
        e.due("fault(1) without", x.fault(1), -1);
        Check.shelf(x, "!");
        e.due("fault(0) at the text's beginning", x.fault(0), 1);
        e.due("fault(1) at the text's beginning", x.fault(1), 0);
        x.back();
        e.due("fault(0) behind back()", x.fault(0), 1);
        x.shelf(0);
        e.due("fault(0) without", x.fault(0), 0);
        e.due("fault(1) without", x.fault(1), -1);
        e.says(12, "NONE for others, and ahead of any.");
        for (int odd : new int[] {-1, 2, 3, Integer.MIN_VALUE, Integer.MAX_VALUE}) {
            Check.shelf(x, "!");
            e.due("fault(" + odd + ")", x.fault(odd), -1);
            e.due("fault(" + odd + ") ahead of any", new TwinShelf().fault(odd), -1);
        }
        e.due("fault(0) ahead of any", new TwinShelf().fault(0), -1);
        e.due("fault(1) ahead of any", new TwinShelf().fault(1), -1);
        TwinShelf y = new TwinShelf();
        y.shelf(1);
        y.days(301);
        e.due("fault(0) behind refusals alone", y.fault(0), -1);
        e.due("fault(1) behind refusals alone", y.fault(1), -1);
    }

    private static void told(Edge e) {
        e.says(13, "N (what 0), R (1), W (2); how many KEEPERS (3), KEYS (4); the sets of KEEPERS that are UP (5), PARTED"
            + " (6; 0 without), of TICKETS that are there (7) (1).");
        TwinShelf x = Edge.rich();
        int[] due = {3, 2, 3, 5, 3, 1 | 2 | 8 | 16, 16, 0};
        // rich() lived days with gets into TICKET 0 beside the tickets 1 and 2
        due[7] = 1 | 2 | 4;
        for (int what = 0; what < 8; what++) {
            e.fine(x, "told(" + what + ")", x.told(what), due[what]);
        }
        for (int odd : new int[] {-1, 8, 9, Integer.MIN_VALUE, Integer.MAX_VALUE}) {
            e.not(Edge::rich, "told(" + odd + ")", y -> y.told(odd), 1);
        }
        x.part(31);
        e.fine(x, "told(6) of all", x.told(6), 31);
        x.part(0);
        e.fine(x, "told(6) without", x.told(6), 0);
        for (int keeper = 0; keeper < 5; keeper++) {
            x.fall(keeper, true);
        }
        e.fine(x, "told(5) of none", x.told(5), 0);
        x = Check.with("keeper a at 1;key x at 1;");
        for (int ticket = 0; ticket < 4; ticket++) {
            x.get(0, 0, ticket);
            e.fine(x, "told(7)", x.told(7), (2 << ticket) - 1);
        }
    }

    private static void rowRefusals(Edge e) {
        e.says(14, "The k-th KEEPER in the ROW of a KEY (1; 6).");
        TwinShelf x = Check.with(Edge.FIVE);
        e.fine(x, "the first", x.row(2, 0), 2);
        e.fine(x, "the last", x.row(2, 4), 1);
        for (int odd : new int[] {-1, 3, Integer.MIN_VALUE, Integer.MAX_VALUE}) {
            e.not(Edge::rich, "row(" + odd + ", 0)", y -> y.row(odd, 0), 1);
            e.not(Edge::rich, "row(" + odd + ", 5): 1 ahead of 6", y -> y.row(odd, 5), 1);
        }
        for (int odd : new int[] {-1, 5, 6, Integer.MIN_VALUE, Integer.MAX_VALUE}) {
            e.not(Edge::rich, "row(0, " + odd + ")", y -> y.row(0, odd), 6);
        }
        e.not(() -> Check.with("key x at 1;"), "row(0, 0) of no KEEPERS", y -> y.row(0, 0), 6);
    }

    private static void reaches(Edge e) {
        e.says(16, "1 if two KEEPERS REACH one another (one and itself: if it is UP), else 0 (1).");
        TwinShelf x = Check.with(Edge.FIVE);
        x.fall(4, true);
        x.part(1 | 2);
        int[] side = {1, 1, 0, 0};
        for (int a = 0; a < 5; a++) {
            for (int b = 0; b < 5; b++) {
                int due = a < 4 && b < 4 && side[a] == side[b] ? 1 : 0;
                e.fine(x, "reach(" + a + ", " + b + ")", x.reach(a, b), due);
            }
        }
        for (int odd : new int[] {-1, 5, 6, Integer.MIN_VALUE, Integer.MAX_VALUE}) {
            e.not(Edge::rich, "reach(" + odd + ", 0)", y -> y.reach(odd, 0), 1);
            e.not(Edge::rich, "reach(0, " + odd + ")", y -> y.reach(0, odd), 1);
            e.not(Edge::rich, "reach(" + odd + ", " + odd + ")", y -> y.reach(odd, odd), 1);
        }
    }
}
