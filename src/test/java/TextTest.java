/** Promises 8 to 12: the tape, THE LAW, STORIES, SCRAPERS and their FAULTS. */
public final class TextTest {
    private static final Checks C = new Checks("TextTest");

    public static void main(String[] args) {
        feed();
        law();
        stories();
        scrapers();
        fault();
        C.end();
    }

    private interface Reading {
        int read(RedHands x, String text);
    }

    /** The text must be refused with this FAULT at this place, and the earlier ones stay. */
    private static void refused(Reading reading, String text, int kind, int place) {
        RedHands x = new RedHands();
        x.paint(0, 0, 0);
        x.skin(0, 1, 0, 5);
        x.skin(0, 0, 0, 5);
        x.layer(1, 100, 1000, 90);
        Checks.law(x, "rate 33; thin 7;");
        Checks.stories(x, "people 1 in 2 to 3;");
        Checks.scrapers(x, "scrape over if open;");
        String shown = "'" + text + "'";
        C.due(shown, reading.read(x, text), -10 - kind);
        C.due(shown + " fault(0)", x.fault(0), kind);
        C.due(shown + " fault(1)", x.fault(1), place);
        C.due(shown + " empties the tape", x.count(6), 0);
        C.due(shown + " leaves THE LAW", x.count(4) == 2 && x.count(7) == 33 && x.count(10) == 7, true);
        C.due(shown + " leaves STORIES", x.count(5) == 1 && x.alone(0, 1) == 2, true);
        C.due(shown + " leaves SCRAPERS", x.count(14) == 1 && x.follow(9, 0) == 0, true);
    }

    private static void taken(Reading reading, String text, int lines) {
        RedHands x = new RedHands();
        reading.read(x, "?");
        C.due("'" + text + "'", reading.read(x, text), lines);
        C.due("'" + text + "' fault(0)", x.fault(0), 0);
        C.due("'" + text + "' fault(1)", x.fault(1), RedHands.NONE);
        C.due("'" + text + "' empties the tape", x.count(6), 0);
    }

    private static String again(String text, int times) {
        StringBuilder s = new StringBuilder();
        for (int i = 0; i < times; i++) {
            s.append(text);
        }
        return s.toString();
    }

    private static void feed() {
        C.promise(8);
        RedHands x = new RedHands();
        for (int i = 1; i <= 20; i++) {
            C.due("feed " + i, x.feed(0, 0, 0, 0, 0), 20 * i);
        }
        C.due("feed 21", x.feed(0, 0, 0, 0, 0), RedHands.NONE);
        C.due("400 bytes of 0", x.law(400), -11);
        // "rate" "  12" ";   " and blanks: the highest byte comes first
        C.due("a law", x.feed(0x72617465, 0x20203132, 0x3b202020, 0x20202020, 0x20200a20), 20);
        C.due("LINES", x.law(20), 1);
        C.due("rate", x.count(7), 12);
        x.feed(0xe9202020, 0, 0, 0, 0);
        C.due("a byte above 127", x.law(1), -11);
    }

    private static void law() {
        C.promise(9);
        RedHands x = new RedHands();
        x.feed(0, 0, 0, 0, 0);
        C.fails("n -1", Checks.IAE, () -> x.law(-1));
        C.fails("n 21", Checks.IAE, () -> x.law(21));
        C.due("an empty text", x.law(0), 0);
        C.due("the tape is empty", x.count(6), 0);
        C.fails("n 1", Checks.IAE, () -> x.law(1));
        C.due("all lines", Checks.law(x, "rate 1;dirt 0 to 99;thin 999;off 50;leak 99;near 50;"), 6);
        int[] most = {1, 0, 99, 999, 50, 99, 50};
        for (int i = 0; i < 7; i++) {
            C.due("count(" + (7 + i) + ")", x.count(7 + i), most[i]);
        }
        C.due("later ones strike", Checks.law(x, "rate 5;dirt 1 to 2;rate 7;dirt 3 to 3;"), 4);
        C.due("rate", x.count(7), 7);
        C.due("dirt", x.count(8), 3);
        C.due("dirt's second", x.count(9), 3);
        C.due("thin as without", x.count(10), 50);
        C.due("LINES", x.count(4), 4);
        C.due("only the first bytes", x.law(Checks.feed(x, "rate 9;rate 0;") - 7), 1);
        C.due("rate 9", x.count(7), 9);
        C.due("cut within a number", x.law(Checks.feed(x, "rate 12;") - 2), -12);
        C.due("the end is there", x.fault(1), 6);
        C.due("cut within a word", x.law(Checks.feed(x, "off 5;rate 5;") - 5), -12);
        C.due("it is no word of a LINE", x.fault(1), 6);
        Reading law = Checks::law;
        taken(law, "", 0);
        taken(law, " \n ", 0);
        taken(law, "rate 099 ;\n\n off\n0;", 2);
        taken(law, "rate9;dirt1to2;", 2);
        taken(law, again("thin 0;", 12), 12);
        String[] low = {"rate 0;", "rate 100;", "off 51;", "leak 0;", "leak 100;", "near 51;"};
        for (String s : low) {
            refused(law, s, 3, s.indexOf(' ') + 1);
        }
        refused(law, "dirt 100 to 1;", 3, 5);
        refused(law, "dirt 1 to 100;", 3, 10);
        refused(law, "dirt 20 to 19;", 3, 11);
        refused(law, "thin 1000;", 1, 5);
        refused(law, "rate 1;leak 00001 ;", 1, 12);
        refused(law, "rate 1", 2, 6);
        refused(law, "rate 1  ", 2, 8);
        refused(law, "rate", 2, 4);
        refused(law, "dirt 5 5;", 2, 7);
        refused(law, "rates 5;", 2, 0);
        refused(law, "people 1 in 1 to 2;", 2, 0);
        refused(law, "5;", 2, 0);
        refused(law, "z 5;", 2, 0);
        refused(law, "a", 2, 0);
        refused(law, "{", 1, 0);
        refused(law, "`", 1, 0);
        refused(law, "rate /;", 1, 5);
        refused(law, "rate :;", 1, 5);
        refused(law, ";", 2, 0);
        refused(law, "rate ( ;", 2, 5);
        refused(law, "rate 5 6;", 2, 7);
        refused(law, "Rate 5;", 1, 0);
        refused(law, "rate\t5;", 1, 4);
        refused(law, "rate 5,", 1, 6);
        refused(law, again("thin 0;", 13), 4, 84);
        refused(law, again("thin 0;", 12) + " rate 0;", 4, 85);
        refused(law, again("thin 0;", 12) + "thick;", 2, 84);
        refused(law, again("thin 0;", 12) + "!", 1, 84);
    }

    private static void stories() {
        C.promise(10);
        RedHands x = new RedHands();
        x.feed(0, 0, 0, 0, 0);
        C.fails("n -1", Checks.IAE, () -> x.stories(-1));
        C.fails("n 21", Checks.IAE, () -> x.stories(21));
        C.due("no bytes of them", x.stories(0), 0);
        Reading stories = Checks::stories;
        taken(stories, "", 0);
        taken(stories, "beast 9 in 0 to 400;people 5 in 400 to 400;", 2);
        taken(stories, again("beast 0 in 1 to 2;", 12), 12);
        refused(stories, "beast 10 in 0 to 1;", 3, 6);
        refused(stories, "people 6 in 0 to 1;", 3, 7);
        refused(stories, "beast 1 in 401 to 401;", 3, 11);
        refused(stories, "beast 1 in 1 to 401;", 3, 16);
        refused(stories, "beast 1 in 9 to 8;", 3, 16);
        refused(stories, "beast 1 to 9;", 2, 8);
        refused(stories, "rate 1;", 2, 0);
        refused(stories, "hand 1 in 1 to 2;", 2, 0);
        refused(stories, "sign 1 in 1 to 2;", 2, 0);
        refused(stories, "beast 1 in 1 to", 2, 15);
        refused(stories, "beast 1 in 1 to 2", 2, 17);
        refused(stories, "beast 1 in 1000 to 2;", 1, 11);
        refused(stories, again("beast 0 in 1 to 2;", 12) + "people", 4, 216);
        C.due("of one people all LINES count", Checks.stories(x, "people 1 in 2 to 3;people 1 in 9 to 9;"), 2);
        x.paint(0, 0, 0);
        C.due("alone", x.alone(0, 1), 3);
        C.due("a new text", Checks.stories(x, "people 2 in 2 to 3;"), 1);
        C.due("alone no more", x.alone(0, 1), 0);
        C.due("LINES", x.count(5), 1);
    }

    private static void scrapers() {
        C.promise(11);
        RedHands x = new RedHands();
        x.feed(0, 0, 0, 0, 0);
        C.fails("n -1", Checks.IAE, () -> x.scrapers(-1));
        C.fails("n 21", Checks.IAE, () -> x.scrapers(21));
        C.due("no bytes of them", x.scrapers(0), 0);
        Reading scrapers = Checks::scrapers;
        taken(scrapers, "", 0);
        taken(scrapers, "scrape over;scrape under;scrape beside;", 3);
        taken(scrapers, "scrape over if cheap 1 and cave 0 or cheap 99 and cave 5;", 1);
        taken(scrapers, "scrape over if hand or disc or beast or sign or bare or open;", 1);
        taken(scrapers, "scrape over if not not(hand)and(not disc or(sign));", 1);
        taken(scrapers, "scrape over if " + again("not ", 8) + "hand;", 1);
        taken(scrapers, "scrape over if " + again("(", 8) + "hand" + again(")", 8) + ";", 1);
        taken(scrapers, "scrape over if " + again("not(hand)and ", 12) + "not hand;", 1);
        taken(scrapers, again("scrape over;", 12), 12);
        refused(scrapers, "scrape;", 2, 6);
        refused(scrapers, "scrape hand;", 2, 7);
        refused(scrapers, "over;", 2, 0);
        refused(scrapers, "scrape over if;", 2, 14);
        refused(scrapers, "scrape over hand;", 2, 12);
        refused(scrapers, "scrape over if hand", 2, 19);
        refused(scrapers, "scrape over if hand disc;", 2, 20);
        refused(scrapers, "scrape over if (hand;", 2, 20);
        refused(scrapers, "scrape over if hand);", 2, 19);
        refused(scrapers, "scrape over if not;", 2, 18);
        refused(scrapers, "scrape over if hand and;", 2, 23);
        refused(scrapers, "scrape over if people;", 2, 15);
        refused(scrapers, "scrape over if cheap;", 2, 20);
        refused(scrapers, "scrape over if cave 6;", 3, 20);
        refused(scrapers, "scrape over if cheap 0;", 3, 21);
        refused(scrapers, "scrape over if cheap 100;", 3, 21);
        refused(scrapers, "scrape over if hand & disc;", 1, 20);
        refused(scrapers, "scrape over if " + again("not ", 9) + "hand;", 5, 47);
        refused(scrapers, "scrape over if " + again("not(", 4) + "(hand;", 5, 31);
        refused(scrapers, "scrape over if " + again("(", 8) + "hand and not", 5, 32);
        refused(scrapers, again("scrape over;", 12) + "scrape", 4, 144);
        refused(scrapers, again("scrape over;", 12) + "over", 2, 144);
        C.due("a text", Checks.scrapers(x, "scrape over;"), 1);
        C.due("an empty text", x.scrapers(0), 0);
        C.due("RULES", x.count(14), 0);
    }

    private static void fault() {
        C.promise(12);
        RedHands x = new RedHands();
        C.due("at first", x.fault(0), 0);
        C.due("its place", x.fault(1), RedHands.NONE);
        C.due("a fault in a law", Checks.law(x, " rate 0;"), -13);
        C.due("kind", x.fault(0), 3);
        C.due("place", x.fault(1), 6);
        C.fails("a call that throws", Checks.IAE, () -> x.law(1));
        C.due("what 2", x.fault(2), RedHands.NONE);
        C.due("what -1", x.fault(-1), RedHands.NONE);
        C.due("a good text", Checks.stories(x, ""), 0);
        C.due("no kind", x.fault(0), 0);
        C.due("no place", x.fault(1), RedHands.NONE);
        C.due("a fault in scrapers", Checks.scrapers(x, "#"), -11);
        C.due("kind 1", x.fault(0), 1);
        C.due("place 0", x.fault(1), 0);
    }
}
