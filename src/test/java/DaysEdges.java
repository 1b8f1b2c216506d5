import java.util.ArrayList;
import java.util.List;

/** Edges of the DAYS' text, with the KEEPERS a to e, the KEYS x, y and the sum s: part 4 of the terms, promise 11. */
final class DaysEdges {
    /** Where the NUMBER stands in 'put x at a 5;'. */
    private static final int PUT_NUMBER = 11;

    private DaysEdges() {
    }

    static void run(Edge e) {
        daysBytes(e);
        texts300(e);
        steps(e);
        items(e);
        ends(e);
        namesOfKinds(e);
        putNumbers(e);
        addNumbers(e);
        stormNumbers(e);
        twinsNumbers(e);
        loopNumbers(e);
        sumsOrNot(e);
        partAgain(e);
        thirty(e);
        nested(e);
        behindFault(e);
        order(e);
        taken(e);
    }

    private static void taken(Edge e, String text, int steps) {
        TwinShelf x = Edge.rich();
        e.fine(x, "days of '" + text + "'", Check.days(x, text), steps);
        e.due("fault(0)", x.fault(0), 0);
        e.due("fault(1)", x.fault(1), -1);
    }

    private static void fault(Edge e, String text, int kind, int place) {
        e.faulty(Edge::rich, "days of '" + text + "'", x -> Check.days(x, text), kind, place);
    }

    private static TwinShelf fed(String text) {
        TwinShelf x = Edge.rich();
        Check.feed(x, text);
        return x;
    }

    private static void daysBytes(Edge e) {
        e.says(11, "Likewise the DAYS: how many STEPS (1: above 300, too; 9).");
        for (int odd : new int[] {-1, 41, 300, 301, 900, Integer.MIN_VALUE, Integer.MAX_VALUE}) {
            e.not(() -> fed("heal;".repeat(8)), "days(" + odd + ") of 40", x -> x.days(odd), 1);
        }
        e.not(Edge::rich, "days(1) of none", x -> x.days(1), 1);
        e.not(() -> fed(" ".repeat(320)), "days(301) of 320", x -> x.days(301), 1);
        e.not(() -> fed(" ".repeat(320)), "days(320) of 320", x -> x.days(320), 1);
        e.not(() -> fed(" ".repeat(320)), "days(321) of 320", x -> x.days(321), 1);
        TwinShelf x = fed("heal;".repeat(8));
        e.fine(x, "days(35) of 40", x.days(35), 7);
        e.due("days(1)", x.days(1), -1);
        e.due("the tape is empty then", x.feed(0, 0, 0, 0, 0), 20);
        x = fed("heal;".repeat(8));
        e.fine(x, "days(40) of 40", x.days(40), 8);
        x = fed("heal;".repeat(8));
        e.fine(x, "days(0) of 40", x.days(0), 0);
        e.due("the tape is empty then", x.feed(0, 0, 0, 0, 0), 20);
        e.faulty(() -> fed("heal;".repeat(8)), "days(39) of 40", y -> y.days(39), 2, 39);
    }

    private static void texts300(Edge e) {
        e.terms("DAYS are a TEXT of at most 300 bytes, of such TOKENS (none at first).");
        taken(e, " ".repeat(300), 0);
        taken(e, " ".repeat(295) + "heal;", 1);
        taken(e, " ".repeat(294) + "heal;", 1);
        fault(e, " ".repeat(296) + "heal", 2, 300);
        fault(e, " ".repeat(299) + "!", 1, 299);
        TwinShelf x = fed(" ".repeat(296) + "heal;");
        e.due("301 bytes", x.days(301), -1);
        e.due("status()", x.status(), 1);
        e.due("live(0) with none at first", Check.with(Edge.FIVE).live(0), -1);
        // such TOKENS: blanks, letters, digits and signs as in a SHELF's text
        taken(e, "heal\n;\n put x at a0005;when twins x at b<1;end;", 3);
        fault(e, "heal\t;", 1, 4);
        fault(e, "heal" + (char) 0 + ";", 1, 4);
        fault(e, "Heal;", 1, 0);
        fault(e, "healx;", 2, 0);
        fault(e, "put x at a 00001;", 1, PUT_NUMBER);
    }

    private static void steps(Edge e) {
        e.terms("DAYS: {STEP}. STEP: put NAME at NAME NUMBER ; or strike NAME at NAME ; or add NAME at NAME NUMBER ;"
            + " or get NAME at NAME ; or fall NAME ; or rise NAME ; or wipe NAME ; or part NAME {NAME} ; or heal ; or hand ;"
            + " or night NAME NAME ; or storm NUMBER ; or when TEST ; {STEP} end ; or loop NUMBER ; {STEP} end ; or stop ;");
        taken(e, "", 0);
        String[] one = {"put x at a 5;", "strike x at a;", "add s at c 5;", "get x at a;", "get s at a;", "fall a;", "rise a;",
            "wipe a;", "part a;", "part a b;", "part e d c b a;", "heal;", "hand;", "night a b;", "night a a;", "storm 5;",
            "when up a;end;", "loop 5;end;", "stop;"};
        for (String step : one) {
            taken(e, step, 1);
            taken(e, "when alike x;" + step + "end;", 2);
            taken(e, "loop 2;" + step + step + "end;", 3);
        }
        e.terms("TEST: alike NAME, or up NAME, or twins NAME at NAME COMPARES NUMBER. COMPARES: < or > or =");
        for (String test : new String[] {"alike x", "alike s", "up e", "twins x at a < 5", "twins x at a > 5",
            "twins x at a = 5", "twins s at a = 5"}) {
            taken(e, "when " + test + ";heal;end;", 2);
        }
        fault(e, "when heal;end;", 2, 5);
        fault(e, "when x;end;", 2, 5);
        fault(e, "when ;end;", 2, 5);
        fault(e, "when twins x at a ; 5;end;", 2, 18);
        fault(e, "when twins x at a == 5;end;", 2, 19);
        fault(e, "when twins x at a 5;end;", 2, 18);
        fault(e, "alike x;", 2, 0);
        fault(e, "up a;", 2, 0);
        fault(e, "twins x at a = 5;", 2, 0);
        fault(e, ";", 2, 0);
        fault(e, "heal;;", 2, 5);
        fault(e, "key q at 1;", 2, 0);
        fault(e, "places 1 reads 1 writes 1;", 2, 0);
    }

    /** Each step cut off ahead of each of its items, and with something else in place of the item. */
    private static void items(Edge e) {
        e.terms("FAULTS: 1, 2 as above");
        String[] steps = {"put x at a 5 ;", "strike x at a ;", "add s at c 5 ;", "get x at a ;", "fall a ;", "rise a ;",
            "wipe a ;", "part a ;", "heal ;", "hand ;", "night a b ;", "storm 5 ;", "when alike x ;", "when up a ;",
            "when twins x at a = 5 ;", "loop 5 ;", "stop ;"};
        for (String step : steps) {
            String[] words = step.split(" ");
            int from = words[0].length() + 1;
            for (int i = 1; i < words.length; i++) {
                String ahead = step.substring(0, from);
                fault(e, ahead, 2, from);
                fault(e, ahead + "places", 2, from);
                boolean isNumber = Character.isDigit(words[i].charAt(0));
                fault(e, ahead + (isNumber ? "q" : "77"), 2, from);
                fault(e, ahead + "12345", 1, from);
                fault(e, ahead + "!", 1, from);
                from += words[i].length() + 1;
            }
        }
    }

    private static void ends(Edge e) {
        e.terms("(an end without a beginning; the text's end ahead of an end: 2).");
        fault(e, "end;", 2, 0);
        fault(e, "heal;end;", 2, 5);
        fault(e, "loop 2;end;end;", 2, 11);
        fault(e, "loop 2;when up a;end;end;end;", 2, 25);
        fault(e, "loop 2;", 2, 7);
        fault(e, "loop 2; \n", 2, 9);
        fault(e, "when up a;heal;", 2, 15);
        fault(e, "loop 2;when up a;end;", 2, 21);
        fault(e, "loop 2;end", 2, 10);
        fault(e, "loop 2;end heal;", 2, 11);
        taken(e, "loop 2;end;", 1);
        taken(e, "loop 2;when up a;end;end;", 2);
    }

    private static void namesOfKinds(Edge e) {
        e.terms("(Behind put, strike, add, get, alike, twins a KEY's NAME; at: a KEEPER's; else KEEPERS'.)");
        e.terms("3 a NAME that is no such one.");
        String[] keyAhead = {"put ", "strike ", "add ", "get ", "when alike ", "when twins "};
        for (String ahead : keyAhead) {
            fault(e, ahead + "q at a 5;", 3, ahead.length());
            fault(e, ahead + "a at a 5;", 3, ahead.length());
            fault(e, ahead + "xx at a 5;", 3, ahead.length());
        }
        String[] keeperAhead = {"put x at ", "strike x at ", "add s at ", "get x at ", "when twins x at ", "fall ", "rise ",
            "wipe ", "part ", "part a ", "night ", "night a ", "when up "};
        for (String ahead : keeperAhead) {
            fault(e, ahead + "q;", 3, ahead.length());
            fault(e, ahead + "x;", 3, ahead.length());
            fault(e, ahead + "f;", 3, ahead.length());
            fault(e, ahead + "abcdefgh;", 3, ahead.length());
            fault(e, ahead + "abcdefghi;", 2, ahead.length());
        }
        TwinShelf x = Check.with("keeper abcdefgh at 1;keeper abcdefg at 2;key hgfedcba at 1;");
        e.fine(x, "NAMES of 8 letters", Check.days(x, "put hgfedcba at abcdefgh 1;fall abcdefg;"), 2);
        e.due("live(0)", x.live(0), 2);
        e.fine(x, "the first KEEPER put it", x.twin(0, 0, 0, 1), 0);
        e.fine(x, "the second is fallen", x.told(5), 1);
        // a NAME of the SHELF ahead is none
        Check.shelf(x, "keeper a at 1;");
        e.due("an old NAME", Check.days(x, "fall abcdefgh;"), -1);
        e.due("fault(0)", x.fault(0), 3);
    }

    private static void putNumbers(Edge e) {
        e.terms("put (0 to 999)");
        taken(e, "put x at a 0;", 1);
        taken(e, "put x at a 1;", 1);
        taken(e, "put x at a 998;", 1);
        taken(e, "put x at a 999;", 1);
        fault(e, "put x at a 1000;", 4, PUT_NUMBER);
        fault(e, "put x at a 9999;", 4, PUT_NUMBER);
    }

    private static void addNumbers(Edge e) {
        e.terms("add (1 to 999)");
        fault(e, "add s at c 0;", 4, PUT_NUMBER);
        taken(e, "add s at c 1;", 1);
        taken(e, "add s at c 999;", 1);
        fault(e, "add s at c 1000;", 4, PUT_NUMBER);
    }

    private static void stormNumbers(Edge e) {
        e.terms("storm n (0 to 16)");
        taken(e, "storm 0;", 1);
        taken(e, "storm 1;", 1);
        taken(e, "storm 15;", 1);
        taken(e, "storm 16;", 1);
        fault(e, "storm 17;", 4, 6);
        fault(e, "storm 9999;", 4, 6);
    }

    private static void twinsNumbers(Edge e) {
        e.terms("when twins: how many TWINS that KEEPER has at the KEY (0 to 99).");
        taken(e, "when twins x at a = 0;end;", 1);
        taken(e, "when twins x at a < 1;end;", 1);
        taken(e, "when twins x at a > 98;end;", 1);
        taken(e, "when twins x at a > 99;end;", 1);
        fault(e, "when twins x at a > 100;end;", 4, 20);
        fault(e, "when twins x at a > 9999;end;", 4, 20);
    }

    private static void loopNumbers(Edge e) {
        e.terms("loop n (1 to 99): as often.");
        fault(e, "loop 0;end;", 4, 5);
        taken(e, "loop 1;end;", 1);
        taken(e, "loop 99;end;", 1);
        fault(e, "loop 100;end;", 4, 5);
        fault(e, "loop 9999;end;", 4, 5);
    }

    private static void sumsOrNot(Edge e) {
        e.terms("5 put, strike of a sum, add of none (at the KEY)");
        fault(e, "put s at c 5;", 5, 4);
        fault(e, "strike s at c;", 5, 7);
        fault(e, "add x at a 5;", 5, 4);
        fault(e, "add y at a 5;", 5, 4);
        fault(e, "put s", 5, 4);
        taken(e, "put y at a 5;strike y at a;add s at a 5;get s at a;get y at a;", 5);
    }

    private static void partAgain(Edge e) {
        e.terms("a KEEPER again behind part (at it).");
        fault(e, "part a a;", 5, 7);
        fault(e, "part a b a;", 5, 9);
        fault(e, "part a b c d e a;", 5, 15);
        fault(e, "part a b b", 5, 9);
        taken(e, "part a b c d e;", 1);
        taken(e, "part a;part a;", 2);
        TwinShelf x = Check.with("keeper a at 1;keeper b at 2;keeper c at 3;keeper d at 4;keeper e at 5;keeper f at 6;");
        e.fine(x, "all six", Check.days(x, "part f e d c b a;"), 1);
        e.due("live(0)", x.live(0), 1);
        e.fine(x, "told(6)", x.told(6), 63);
        e.due("six, and one again", Check.days(x, "part f e d c b a f;"), -1);
        e.due("fault(0)", x.fault(0), 5);
        e.due("fault(1)", x.fault(1), 17);
        e.due("six, and a NUMBER", Check.days(x, "part f e d c b a 1;"), -1);
        e.due("fault(0)", x.fault(0), 2);
        e.due("fault(1)", x.fault(1), 17);
        e.due("six, and a NAME of none", Check.days(x, "part f e d c b a g;"), -1);
        e.due("fault(0)", x.fault(0), 3);
        e.due("six, and the end", Check.days(x, "part f e d c b a"), -1);
        e.due("fault(0)", x.fault(0), 2);
        e.due("fault(1)", x.fault(1), 16);
    }

    private static void thirty(Edge e) {
        e.terms("6 a 31st STEP (at its WORD; end is none).");
        taken(e, "heal;".repeat(29), 29);
        taken(e, "heal;".repeat(30), 30);
        fault(e, "heal;".repeat(30) + "heal;", 6, 150);
        fault(e, "heal;".repeat(30) + "put", 6, 150);
        fault(e, "heal;".repeat(30) + "loop 1;end;", 6, 150);
        fault(e, "heal;".repeat(30) + "when", 6, 150);
        fault(e, "heal;".repeat(30) + "stop;", 6, 150);
        taken(e, "loop 1;" + "heal;".repeat(29) + "end;", 30);
        taken(e, "loop 1;loop 1;when up a;" + "heal;".repeat(27) + "end;end;end;", 30);
        fault(e, "loop 1;loop 1;when up a;" + "heal;".repeat(27) + "end;end;end;heal;", 6, 171);
        fault(e, "loop 1;" + "heal;".repeat(29) + "heal;end;", 6, 152);
        taken(e, "loop 1;end;".repeat(27), 27);
        taken(e, "loop 1 ; ".repeat(3) + "end;".repeat(3) + "heal;".repeat(27), 30);
        TwinShelf x = Edge.rich();
        // as many ends as 300 bytes can hold: 27 steps that begin something
        e.fine(x, "27 loops and 27 ends", Check.days(x, "loop 1;end;".repeat(27)), 27);
        e.due("live(0)", x.live(0), 27);
    }

    private static void nested(Edge e) {
        e.terms("7 a when, loop within three others (at its WORD).");
        taken(e, "loop 1;loop 1;loop 1;heal;end;end;end;", 4);
        taken(e, "when up a;when up b;when up c;heal;end;end;end;", 4);
        taken(e, "loop 1;loop 1;loop 1;end;loop 1;end;end;end;", 4);
        taken(e, "loop 1;loop 1;loop 1;end;end;end;loop 1;loop 1;loop 1;end;end;end;", 6);
        fault(e, "loop 1;loop 1;loop 1;loop 1;end;end;end;end;", 7, 21);
        fault(e, "loop 1;loop 1;loop 1;when up a;end;end;end;end;", 7, 21);
        fault(e, "when up a;when up a;when up a;when", 7, 30);
        fault(e, "when up a;when up a;when up a;loop", 7, 30);
        fault(e, "loop 1;loop 1;loop 1;heal;end;loop 1;loop", 7, 37);
    }

    /** What a text with a FAULT had begun is forgotten: the next text begins anew. */
    private static void behindFault(Edge e) {
        e.terms("7 a when, loop within three others (at its WORD).");
        String[] begun = {"loop 2;loop 2;loop 2;heal", "when up a;when up b;when up c;", "loop 2;loop 2;loop 2;loop 2;",
            "heal;".repeat(31), "part a b c d e", "part a a"};
        for (String text : begun) {
            TwinShelf x = Edge.rich();
            e.due("days of '" + text + "'", Check.days(x, text), -1);
            e.fine(x, "as many within one another", Check.days(x, "loop 1;loop 1;loop 1;heal;end;end;end;"), 4);
            e.due("live(0)", x.live(0), 4);
            e.due("days of '" + text + "' again", Check.days(x, text), -1);
            e.due("an end alone", Check.days(x, "end;"), -1);
            e.due("fault(0)", x.fault(0), 2);
            e.due("fault(1)", x.fault(1), 0);
            e.fine(x, "thirty STEPS", Check.days(x, "heal;".repeat(30)), 30);
            e.fine(x, "all to be PARTED", Check.days(x, "part a b c d e;"), 1);
        }
    }

    private static void order(Edge e) {
        e.terms("FAULTS, the first along the text (of one TOKEN the least kind)");
        fault(e, "put q at q 1000;", 3, 4);
        fault(e, "put x at q 1000;", 3, 9);
        fault(e, "put x at a 1000 !", 4, PUT_NUMBER);
        fault(e, "loop 0;", 4, 5);
        // 2 ahead of 6 and 7: the word can't stand there
        fault(e, "heal;".repeat(30) + "end;", 2, 150);
        fault(e, "heal;".repeat(30) + "at", 2, 150);
        fault(e, "heal;".repeat(30) + "healx", 2, 150);
        fault(e, "heal;".repeat(30) + "!", 1, 150);
        fault(e, "heal;".repeat(30) + "12345", 1, 150);
        fault(e, "loop 1;loop 1;loop 1;put loop", 2, 25);
        // 6 ahead of 7: the 31st STEP is a loop within three others
        fault(e, "loop 1;loop 1;loop 1;" + "heal;".repeat(27) + "loop 1;", 6, 156);
        fault(e, "loop 1;loop 1;loop 1;" + "heal;".repeat(26) + "loop 1;", 7, 151);
        // 3 ahead of 5: no KEY at all; a KEEPER's NAME behind put
        fault(e, "put c at c 5;", 3, 4);
    }

    private static void taken(Edge e) {
        e.says(11, "Likewise the DAYS");
        TwinShelf x = Edge.rich();
        e.fine(x, "days", Check.days(x, "heal;hand;"), 2);
        e.same("nothing but the DAYS is changed", withoutFault(Probe.quiet(x)), withoutFault(Probe.quiet(Edge.rich())));
        e.fine(x, "live(0)", x.live(0), 2);
        e.fine(x, "others take their place", Check.days(x, "heal;"), 1);
        e.fine(x, "live(0)", x.live(0), 1);
        e.due("a FAULT", Check.days(x, "heal;heal;heal"), -1);
        e.fine(x, "the old ones stay", x.live(0), 1);
        e.fine(x, "days(0)", x.days(0), 0);
        e.fine(x, "DAYS of no STEPS are there", x.live(0), 0);
    }

    private static List<String> withoutFault(List<String> lines) {
        List<String> left = new ArrayList<>(lines);
        left.removeIf(line -> line.startsWith("fault"));
        return left;
    }
}
