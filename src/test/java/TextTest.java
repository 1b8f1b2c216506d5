/** Promises 9 to 12: feed, shelf, days, fault. */
public final class TextTest {
    private static final Check CHECK = new Check("TextTest");
    private static final String RING = "keeper a at 5;keeper b at 9;key x at 3;key s at 4 sum;";

    public static void main(String[] args) {
        feeds();
        tapeGoes();
        shelfFaults();
        shelfTakes();
        oldShelfStays();
        hintsGo();
        daysFaults();
        daysTakes();
        faultTells();
        CHECK.end();
    }

    private static void feeds() {
        TwinShelf x = new TwinShelf();
        for (int i = 1; i <= 45; i++) {
            CHECK.due("feed", x.feed(0x20202020, 0x20202020, 0x20202020, 0x20202020, 0x20202020), 20 * i);
        }
        CHECK.due("feed beyond 900", x.feed(0, 0, 0, 0, 0), -1);
        CHECK.fine(x, "shelf(900) of blanks", x.shelf(900), 0);
        CHECK.due("feed", x.feed(0, 0, 0, 0, 0), 20);
        CHECK.not(x, "shelf(21)", x.shelf(21), 1);
        CHECK.not(x, "shelf(-1)", x.shelf(-1), 1);
        CHECK.due("the tape stays", x.feed(0, 0, 0, 0, 0), 40);
        CHECK.not(x, "shelf(1) of a 0", x.shelf(1), 9);
        CHECK.due("the tape is empty", x.feed(0, 0, 0, 0, 0), 20);
    }

    private static void tapeGoes() {
        TwinShelf x = new TwinShelf();
        Check.feed(x, "key x at 3;key y at 4;");
        CHECK.fine(x, "shelf(11) of 22", x.shelf(11), 1);
        CHECK.not(x, "shelf(1)", x.shelf(1), 1);
        CHECK.due("the tape is empty", x.feed(0, 0, 0, 0, 0), 20);
        // the highest byte of each int comes first
        x = new TwinShelf();
        x.feed(0x6b657920, 0x7a206174, 0x20303b0a, 0, 0);
        CHECK.fine(x, "shelf(12)", x.shelf(12), 1);
        CHECK.fine(x, "days(0)", x.days(0), 0);
        Check.feed(x, " ".repeat(320));
        CHECK.not(x, "days(301)", x.days(301), 1);
        CHECK.not(x, "days(-1)", x.days(-1), 1);
        CHECK.fine(x, "days(300)", x.days(300), 0);
        Check.feed(x, "hand;");
        CHECK.not(x, "days(21)", x.days(21), 1);
        CHECK.fine(x, "days(5)", x.days(5), 1);
        CHECK.not(x, "days(1)", x.days(1), 1);
    }

    private static void shelfFault(String text, int kind, int place) {
        TwinShelf x = new TwinShelf();
        CHECK.not(x, "shelf of '" + text + "'", Check.shelf(x, text), 9);
        CHECK.due("fault(0) of '" + text + "'", x.fault(0), kind);
        CHECK.due("fault(1) of '" + text + "'", x.fault(1), place);
    }

    private static void shelfFaults() {
        shelfFault("?", 1, 0);
        shelfFault("key A at 1;", 1, 4);
        shelfFault("key x\tat 1;", 1, 5);
        shelfFault("key x\rat 1;", 1, 5);
        shelfFault("key " + (char) 233 + " at 1;", 1, 4);
        shelfFault("12345", 1, 0);
        shelfFault("key x at 00001;", 1, 9);
        shelfFault("key x at 1 12345", 1, 11);
        shelfFault("key x at -1;", 1, 9);
        shelfFault(";", 2, 0);
        shelfFault("12", 2, 0);
        shelfFault("reads 1;", 2, 0);
        shelfFault("keeperx a at 1;", 2, 0);
        shelfFault("put x at a 1;", 2, 0);
        shelfFault("keeper", 2, 6);
        shelfFault("keeper  ", 2, 8);
        shelfFault("keeper \n", 2, 8);
        shelfFault("keeper 5 at 1;", 2, 7);
        shelfFault("keeper a 5;", 2, 9);
        shelfFault("keeper a at b;", 2, 12);
        shelfFault("keeper a at ;", 2, 12);
        shelfFault("keeper a at 1 keeper", 2, 14);
        shelfFault("keeper a at 1 sum;", 2, 14);
        shelfFault("key a at 1 sum sum;", 2, 15);
        shelfFault("key a at 1 =", 2, 11);
        shelfFault("key a at 1 2;", 2, 11);
        shelfFault("key abcdefghi at 1;", 2, 4);
        shelfFault("places 2 writes 1 reads 1;", 2, 9);
        shelfFault("places 2 reads 1 writes 1 keeper", 2, 26);
        shelfFault("places two", 2, 7);
        String[] own = {"places", "reads", "writes", "keeper", "at", "key", "sum", "put", "strike", "add", "get", "fall",
            "rise", "wipe", "part", "heal", "hand", "night", "storm", "when", "alike", "up", "twins", "loop", "end",
            "stop"};
        for (String word : own) {
            shelfFault("key " + word + " at 1;", 2, 4);
            shelfFault("keeper " + word + " at 1;", 2, 7);
        }
        shelfFault("keeper a at 1;keeper a at 2;", 3, 21);
        shelfFault("keeper a at 1;key a at 2;", 3, 18);
        shelfFault("key a at 1;key a at 2;", 3, 15);
        shelfFault("key a at 1;keeper a at 2;", 3, 18);
        shelfFault("places 0 reads 1 writes 1;", 4, 7);
        shelfFault("places 7 reads 1 writes 1;", 4, 7);
        shelfFault("places 4 reads 0 writes 1;", 4, 15);
        shelfFault("places 4 reads 5 writes 1;", 4, 15);
        shelfFault("places 4 reads 4 writes 0;", 4, 24);
        shelfFault("places 4 reads 4 writes 5;", 4, 24);
        shelfFault("keeper a at 1000;", 4, 12);
        shelfFault("key a at 1000;", 4, 9);
        shelfFault("places 1 reads 1 writes 1;places", 5, 26);
        shelfFault("keeper a at 7;keeper b at 07;", 5, 26);
        shelfFault("keeper a at 1;keeper b at 2;keeper c at 3;keeper d at 4;keeper e at 5;keeper f at 6;keeper", 6, 84);
        shelfFault("key a at 1;key b at 1;key c at 1;key d at 1;key e at 1;key f at 1;key", 6, 66);
        shelfFault("key a at 1;key b at 1;key c at 1;key d at 1;key e at 1;key f at 1;!", 1, 66);
    }

    private static void shelfTakes() {
        TwinShelf x = new TwinShelf();
        CHECK.fine(x, "an empty text", x.shelf(0), 0);
        CHECK.due("fault(0)", x.fault(0), 0);
        CHECK.due("fault(1)", x.fault(1), -1);
        CHECK.fine(x, "blanks alone", Check.shelf(x, " \n \n"), 0);
        CHECK.fine(x, "tokens without blanks", Check.shelf(x, "places2reads2writes1;key x at3sum;key\ny\nat\n4\n;"), 2);
        CHECK.fine(x, "told(0)", x.told(0), 2);
        CHECK.fine(x, "told(1)", x.told(1), 2);
        CHECK.fine(x, "told(2)", x.told(2), 1);
        CHECK.fine(x, "names like the own words",
            Check.shelf(x, "key putt at 1;key pu at 0999;key sums at 0000;keeper abcdefgh at 1;keeper abcdefg at 2;"), 3);
        CHECK.fine(x, "told(3)", x.told(3), 2);
        CHECK.fine(x, "keys may stand at one number, and with a keeper",
            Check.shelf(x, "key x at 1;key y at 1;keeper a at 1;"), 2);
        CHECK.fine(x, "places told last", Check.shelf(x, "keeper a at 1;places 6 reads 6 writes 6;"), 0);
        CHECK.fine(x, "told(0)", x.told(0), 6);
        CHECK.fine(x, "six and six", Check.shelf(x, "key a at 1;key b at 1;key c at 1;key d at 1;key e at 1;key f at 1;"
            + "keeper g at 1;keeper h at 2;keeper i at 3;keeper j at 4;keeper k at 5;keeper l at 6;"), 6);
        CHECK.fine(x, "told(5)", x.told(5), 63);
    }

    private static void hintsGo() {
        String three = "places 2 reads 1 writes 1;keeper a at 1;keeper b at 2;keeper c at 3;key x at 1;";
        TwinShelf x = Check.with(three);
        x.fall(1, true);
        // two, so that what is left of the old hint could be told from a new one
        x.put(0, 0, 8, -1);
        x.put(0, 0, 8, -1);
        CHECK.fine(x, "hints(2)", x.hints(2), 1);
        CHECK.fine(x, "a new shelf", Check.shelf(x, three), 1);
        CHECK.fine(x, "hints(2)", x.hints(2), 0);
        CHECK.fine(x, "hand()", x.hand(), 0);
        x.fall(1, true);
        x.put(0, 0, 9, -1);
        CHECK.fine(x, "holders(0, 8)", x.holders(0, 8), 0);
        x.fall(1, false);
        x.hand();
        CHECK.fine(x, "twins(1, 0)", x.twins(1, 0), 1);
        CHECK.fine(x, "seen(1, 0, 0)", x.seen(1, 0, 0), 1);
    }

    private static void oldShelfStays() {
        TwinShelf x = Check.with(RING);
        x.put(0, 0, 7, -1);
        x.get(0, 0, 2);
        x.fall(1, true);
        x.part(1);
        Check.days(x, "hand;");
        CHECK.not(x, "a faulty shelf", Check.shelf(x, "keeper q at 1;key"), 9);
        CHECK.fine(x, "told(3)", x.told(3), 2);
        CHECK.fine(x, "twins(0, 0)", x.twins(0, 0), 1);
        CHECK.fine(x, "told(5)", x.told(5), 1);
        CHECK.fine(x, "told(6)", x.told(6), 1);
        CHECK.fine(x, "told(7)", x.told(7), 4);
        CHECK.fine(x, "live(0)", x.live(0), 1);
        CHECK.not(x, "faulty days", Check.days(x, "hand;hand"), 9);
        CHECK.fine(x, "live(0)", x.live(0), 1);
        CHECK.fine(x, "a new shelf", Check.shelf(x, RING), 2);
        CHECK.fine(x, "twins(0, 0)", x.twins(0, 0), 0);
        CHECK.fine(x, "seen(0, 0, 0)", x.seen(0, 0, 0), 0);
        CHECK.fine(x, "told(5)", x.told(5), 3);
        CHECK.fine(x, "told(6)", x.told(6), 0);
        CHECK.fine(x, "told(7)", x.told(7), 0);
        CHECK.not(x, "live(0)", x.live(0), 6);
        CHECK.fine(x, "hints(1)", x.hints(1), 0);
        CHECK.fine(x, "hand()", x.hand(), 0);
        CHECK.fine(x, "holders(0, 7)", x.holders(0, 7), 0);
        CHECK.fine(x, "counts begin anew", x.put(0, 0, 7, -1), 2);
        CHECK.fine(x, "twin(0, 0, 0, 2)", x.twin(0, 0, 0, 2), 1);
    }

    private static void daysFault(String text, int kind, int place) {
        TwinShelf x = Check.with(RING);
        CHECK.not(x, "days of '" + text + "'", Check.days(x, text), 9);
        CHECK.due("fault(0) of '" + text + "'", x.fault(0), kind);
        CHECK.due("fault(1) of '" + text + "'", x.fault(1), place);
    }

    private static void daysFaults() {
        daysFault("hand:", 1, 4);
        daysFault("put x at a 12345;", 1, 11);
        daysFault(";", 2, 0);
        daysFault("7", 2, 0);
        daysFault("a", 2, 0);
        daysFault("at", 2, 0);
        daysFault("alike x;", 2, 0);
        daysFault("key x at 1;", 2, 0);
        daysFault("hand", 2, 4);
        daysFault("hand hand;", 2, 5);
        daysFault("heal a;", 2, 5);
        daysFault("put abcdefghi at a 1;", 2, 4);
        daysFault("put put at a 1;", 2, 4);
        daysFault("put x a 1;", 2, 6);
        daysFault("put x at a;", 2, 10);
        daysFault("put x at a = 1;", 2, 11);
        daysFault("strike x at a 1;", 2, 14);
        daysFault("get x at 1;", 2, 9);
        daysFault("night a;", 2, 7);
        daysFault("night a b a;", 2, 10);
        daysFault("part;", 2, 4);
        daysFault("part a 5;", 2, 7);
        daysFault("part a =", 2, 7);
        daysFault("part a", 2, 6);
        daysFault("part a end;", 2, 7);
        daysFault("storm;", 2, 5);
        daysFault("end;", 2, 0);
        daysFault("loop 2;end;end;", 2, 11);
        daysFault("loop 2;hand;", 2, 12);
        daysFault("loop 2;hand; end", 2, 16);
        daysFault("when up a;hand;  ", 2, 17);
        daysFault("when a;", 2, 5);
        daysFault("when twins x at a;", 2, 17);
        daysFault("when twins x at a ; 5;", 2, 18);
        daysFault("when twins x at a < ;", 2, 20);
        daysFault("when up a hand;", 2, 10);
        daysFault("stop 1;", 2, 5);
        daysFault("put y at a 1;", 3, 4);
        daysFault("put a at a 1;", 3, 4);
        daysFault("put x at x 1;", 3, 9);
        daysFault("fall x;", 3, 5);
        daysFault("rise c;", 3, 5);
        daysFault("wipe s;", 3, 5);
        daysFault("part a x;", 3, 7);
        daysFault("night a x;", 3, 8);
        daysFault("when alike a;end;", 3, 11);
        daysFault("when up x;end;", 3, 8);
        daysFault("when twins a at a = 1;end;", 3, 11);
        daysFault("when twins x at x = 1;end;", 3, 16);
        daysFault("put x at a 1000;", 4, 11);
        daysFault("add s at a 0;", 4, 11);
        daysFault("add s at a 1000;", 4, 11);
        daysFault("storm 17;", 4, 6);
        daysFault("loop 0;end;", 4, 5);
        daysFault("loop 100;end;", 4, 5);
        daysFault("when twins x at a > 100;end;", 4, 20);
        daysFault("put s at a 1;", 5, 4);
        daysFault("strike s at a;", 5, 7);
        daysFault("add x at a 1;", 5, 4);
        daysFault("part a a;", 5, 7);
        daysFault("part a b a;", 5, 9);
        daysFault("hand;".repeat(30) + "heal", 6, 150);
        daysFault("loop 1;end;" + "hand;".repeat(29) + "heal", 6, 156);
        daysFault("hand;".repeat(30) + "end;", 2, 150);
        daysFault("hand;".repeat(30) + "at", 2, 150);
        daysFault("loop 1;loop 1;when up a;loop", 7, 24);
        daysFault("loop 1;loop 1;when up a;when", 7, 24);
        daysFault("loop 1;loop 1;loop 1;" + "hand;".repeat(27) + "loop", 6, 156);
    }

    private static void daysTake(String text, int steps) {
        TwinShelf x = Check.with(RING);
        CHECK.fine(x, "days of '" + text + "'", Check.days(x, text), steps);
        CHECK.due("fault(0)", x.fault(0), 0);
        CHECK.due("fault(1)", x.fault(1), -1);
    }

    private static void daysTakes() {
        daysTake("", 0);
        daysTake("put x at a 0;put x at b 999;strike x at a;add s at b 1;add s at a 999;get x at a;get s at b;", 7);
        daysTake("fall a;rise a;wipe b;part a;part b a;heal;hand;night a b;storm 0;storm 16;stop;", 11);
        daysTake("when alike x;end;when alike s;end;when up b;hand;end;", 4);
        daysTake("when twins x at a<0;end;when twins x at b > 99;end;when twins s at b=5;end;", 3);
        daysTake("loop 1;loop 99;loop 2;hand;end;end;end;loop 1;end;", 5);
        daysTake("hand;".repeat(30), 30);
        daysTake("loop 1;end;".repeat(26), 26);
        daysTake("put\nx at\na 0001 ;", 1);
        TwinShelf six = Check.with("keeper a at 1;keeper b at 2;keeper c at 3;keeper d at 4;keeper e at 5;keeper f at 6;");
        CHECK.fine(six, "part of all six", Check.days(six, "part f a e b d c;"), 1);
        six.live(0);
        CHECK.fine(six, "told(6)", six.told(6), 63);
        CHECK.not(six, "a seventh name", Check.days(six, "part f a e b d c f;"), 9);
        CHECK.due("fault(0)", six.fault(0), 5);
        CHECK.due("fault(1)", six.fault(1), 17);
        TwinShelf long8 = Check.with("keeper abcdefgh at 1;keeper abcdefgi at 2;key zzzzzzzz at 1;");
        CHECK.fine(long8, "names of eight letters", Check.days(long8, "put zzzzzzzz at abcdefgi 1;"), 1);
        CHECK.not(long8, "nine letters", Check.days(long8, "fall abcdefghi;"), 9);
        CHECK.due("fault(0)", long8.fault(0), 2);
        CHECK.not(long8, "seven letters", Check.days(long8, "fall abcdefg;"), 9);
        CHECK.due("fault(0)", long8.fault(0), 3);
    }

    private static void faultTells() {
        TwinShelf x = new TwinShelf();
        CHECK.due("fault(2)", x.fault(2), -1);
        Check.shelf(x, "key");
        CHECK.due("fault(0)", x.fault(0), 2);
        CHECK.due("fault(1)", x.fault(1), 3);
        CHECK.due("fault(2)", x.fault(2), -1);
        CHECK.due("fault(-1)", x.fault(-1), -1);
        CHECK.not(x, "shelf(99)", x.shelf(99), 1);
        CHECK.due("fault(0) stays behind a 1", x.fault(0), 2);
        CHECK.fine(x, "shelf(0)", x.shelf(0), 0);
        CHECK.due("fault(0)", x.fault(0), 0);
        CHECK.due("fault(1)", x.fault(1), -1);
        Check.days(x, "fall a;");
        CHECK.due("fault(0) of days", x.fault(0), 3);
        CHECK.due("fault(1) of days", x.fault(1), 5);
    }
}
