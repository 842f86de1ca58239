import java.util.List;

/** Promises 8 to 12, and the terms THE LAW, STORIES, SCRAPERS, TOKENS, FAULTS. */
final class EdgeTexts {
    private static final int NONE = Runs.NONE;
    private static final String[] HOWS = {"law", "stories", "scrapers"};

    private EdgeTexts() {
    }

    static void run(Runs r) {
        feed(r);
        readers(r);
        law(r);
        stories(r);
        scrapers(r);
        tokens(r);
        faults(r);
        places(r);
        fault(r);
    }

    private static void feed(Runs r) {
        r.about(8, "Twenty bytes come behind those on the tape, the highest of each int first: how many it has; NONE, and nothing changes, if there would be more than 400.");
        // "rate", " 21 ", ";lea", "k 3;" and one of four blanks; then "off ", "9;  "
        r.is("feed 1918989413 540160288 996959585 1797272379 538976288", 20);
        r.is("feed 1868981792 960176160 538976288 538976288 538976288", 40);
        r.is("count 6", 40);
        r.is("law 40", 3);
        r.is("count 7", 21);
        r.is("count 12", 3);
        r.is("count 11", 9);
        r.is("count 6", 0);
        for (int i = 1; i < 20; i++) {
            r.is("feed 538976288 538976288 538976288 538976288 538976288", 20 * i);
        }
        r.is("feed 538976288 538976288 538976288 538976288 540680224", 400);
        r.still(NONE, "feed 538976288 538976288 538976288 538976288 538976288", "feed 0 0 0 0 0");
        r.is("count 6", 400);
        // the 400th byte is a blank, the 398th ":"
        r.is("law 400", -11);
        r.is("fault 1", 397);
        r.is("feed 0 0 0 0 0", 20);
        // each byte of an int in its place: 9 is no blank, a 128 neither
        r.anew("feed 537468960 0 0 0 0");
        r.is("law 4", -11);
        r.is("fault 1", 1);
        r.anew("feed 538976384 538976288 -2145378272 0 0");
        r.is("law 3", 0);
        r.does("feed 538976384 538976288 -2145378272 0 0");
        r.is("law 4", -11);
        r.is("fault 1", 3);
        r.does("feed 538976288 -2145378272 0 0 0");
        r.is("law 8", -11);
        r.is("fault 1", 4);

        r.about(0, "THE LAW is a TEXT of at most 400 bytes (empty at first)");
        r.is("count 4", 0);
        String longest = EdgeTest.again(" ", 392) + "rate 31;";
        r.takes("law", longest, 1);
        r.is("count 7", 31);
        r.about(0, "STORIES are a TEXT likewise: { LINE ; }");
        r.is("count 5", 0);
        r.takes("stories", EdgeTest.again("\n", 381) + "people 1 in 2 to 3;", 1);
        r.is("count 5", 1);
        r.about(0, "SCRAPERS are a TEXT likewise (empty at first): { RULE ; }");
        r.is("count 14", 0);
        r.is("follow 999 -1", 0);
        r.takes("scrapers", EdgeTest.again(" ", 388) + "scrape over;", 1);
        r.is("count 14", 1);
    }

    /** What law(), stories() and scrapers() have in common. */
    private static void readers(Runs r) {
        String[] good = {"rate 9;", "people 1 in 2 to 3;", "scrape beside;"};
        String[] sentences = {"The first n bytes of the tape (which is empty then) are THE LAW: how many LINES; -10 less the FAULT.",
            "The same are STORIES: likewise.", "The same are SCRAPERS: likewise, RULES."};
        int[] counted = {4, 5, 14};
        for (int i = 0; i < 3; i++) {
            String how = HOWS[i];
            r.about(9 + i, sentences[i]);
            r.does(EdgeTest.rich());
            r.still(Runs.IAE, how + " -1", how + " 21", how + " -2147483648", how + " 2147483647");
            r.is(how + " 0", 0);
            r.is("count " + counted[i], 0);
            r.is("count 6", 0);
            r.still(Runs.IAE, how + " 1", how + " -1");
            r.is(how + " 0", 0);
            // behind the first n bytes there may be what is no TEXT: it is gone with them
            List<String> feeds = Runs.fed(good[i] + "?");
            r.does(feeds.toArray(new String[0]));
            r.still(Runs.IAE, how + " " + (20 * feeds.size() + 1));
            r.is(how + " " + good[i].length(), 1);
            r.is("count " + counted[i], 1);
            r.is("count 6", 0);
            r.does(feeds.toArray(new String[0]));
            r.is(how + " " + (good[i].length() + 1), -11);
            r.is("count " + counted[i], 1);
            r.is("count 6", 0);
            // all that it has
            r.does(Runs.fed(good[i]).toArray(new String[0]));
            r.is(how + " " + 20 * feeds.size(), 1);
        }
        firstBytes(r);
        r.about(9, "IllegalArgumentException: n is below 0 or above what it has.");
        r.still(Runs.IAE, "law -1", "law 1");
        r.is("law 0", 0);
        r.does("feed 0 0 0 0 0");
        r.still(Runs.IAE, "law -1", "law 21", "law 400");
        r.is("law 20", -11);
        for (int i = 0; i < 20; i++) {
            r.does("feed 538976288 538976288 538976288 538976288 538976288");
        }
        r.still(Runs.IAE, "law 401");
        r.is("law 400", 0);
    }

    /** Where the first n bytes end within a TOKEN, what is behind them is no part of it. */
    private static void firstBytes(Runs r) {
        r.about(9, "The first n bytes of the tape (which is empty then) are THE LAW");
        List<String> feeds = Runs.fed("rate 12;leak 345;");
        int[] due = {0, -12, -12, -12, -12, -12, -12, -12, 1, -12, -12, -12, -12, -12, -12, -12, -13, -13};
        int[] places = {NONE, 0, 0, 0, 4, 5, 6, 7, NONE, 8, 8, 8, 12, 13, 14, 15, 13, 13};
        for (int n = 0; n < due.length; n++) {
            r.anew(feeds.toArray(new String[0]));
            r.is("law " + n, due[n]);
            r.is("fault 1", places[n]);
            r.is("count 6", 0);
        }
        // what an earlier, longer text left is no part of a later one
        r.anew();
        r.takes("law", "off 33;off 33;off 33;off 33;off 33;", 5);
        r.does(Runs.fed("off 3").get(0));
        r.is("law 5", -12);
        r.is("fault 1", 5);
        // a TOKEN, or a part of one, that ends with the tape
        String[] last = {"rate", "rat", "o", "zz", "rate 5", "rate 55", "rate 555", "rate 5;", "rate 5555", "thin 999", "("};
        int[] kinds = {2, 2, 2, 2, 2, 2, 3, 0, 1, 2, 2};
        int[] at = {400, 397, 399, 398, 400, 400, 397, NONE, 396, 400, 399};
        for (int i = 0; i < last.length; i++) {
            r.anew();
            r.reads("law", " ".repeat(400 - last[i].length()) + last[i], kinds[i] == 0 ? 1 : -10 - kinds[i]);
            r.is("fault 1", at[i]);
        }
    }

    private static void law(Runs r) {
        r.about(0, "rate 1 to 99, dirt 0 to 99 each, the first not above the second, thin 0 to 999, off 0 to 50, leak 1 to 99, near 0 to 50; without: 10, 20 to 60, 50, 5, 10, 6. Later ones strike. At most 12 LINES.");
        r.takes("law", "rate 1;dirt 0 to 0;thin 0;off 0;leak 1;near 0;", 6);
        counts(r, 1, 0, 0, 0, 0, 1, 0);
        r.takes("law", "rate 99;dirt 99 to 99;thin 999;off 50;leak 99;near 50;", 6);
        counts(r, 99, 99, 99, 999, 50, 99, 50);
        r.takes("law", "", 0);
        counts(r, 10, 20, 60, 50, 5, 10, 6);
        r.takes("law", "rate 7;", 1);
        counts(r, 7, 20, 60, 50, 5, 10, 6);
        r.takes("law", "near 7;", 1);
        counts(r, 10, 20, 60, 50, 5, 10, 7);
        r.takes("law", "dirt 0 to 99;", 1);
        counts(r, 10, 0, 99, 50, 5, 10, 6);
        r.takes("law", "rate 5;dirt 1 to 2;off 9;rate 6;dirt 3 to 4;off 8;thin 1;thin 2;leak 3;leak 4;near 5;near 6;", 12);
        counts(r, 6, 3, 4, 2, 8, 4, 6);
        r.is("count 4", 12);
        r.anew(EdgeTest.untaped());
        r.refuses("law", "rate 0;", 3, 5);
        r.refuses("law", "rate 100;", 3, 5);
        r.refuses("law", "dirt 100 to 100;", 3, 5);
        r.refuses("law", "dirt 0 to 100;", 3, 10);
        r.refuses("law", "dirt 21 to 20;", 3, 11);
        r.refuses("law", "off 51;", 3, 4);
        r.refuses("law", "leak 0;", 3, 5);
        r.refuses("law", "leak 100;", 3, 5);
        r.refuses("law", "near 51;", 3, 5);
        r.refuses("law", "thin 1000;", 1, 5);
        r.refuses("law", EdgeTest.again("off 1;", 13), 4, 72);
        r.takes("law", "dirt 20 to 20;", 1);
        r.takes("law", EdgeTest.again("off 1;", 12), 12);
    }

    private static void counts(Runs r, int... law) {
        for (int i = 0; i < law.length; i++) {
            r.is("count " + (7 + i), law[i]);
        }
    }

    private static void stories(Runs r) {
        r.about(0, "beast 0 to 9, people 0 to 5; thousands of years ago 0 to 400 each, the first not above the second. At most 12 LINES; of one beast or people all LINES count.");
        r.does("paint 2 0 9", "paint 2 0 0", "paint 1 0 0");
        r.takes("stories", "beast 9 in 0 to 0;beast 9 in 400 to 400;beast 9 in 7 to 8;beast 0 in 0 to 400;people 5 in 0 to 0;people 5 in 400 to 400;people 0 in 1 to 3;", 7);
        r.is("count 5", 7);
        r.is("times 0 0", 4);
        r.is("times 0 1", 0);
        r.is("times 0 2", 400);
        r.is("times 1 0", 401);
        r.is("alone 2 5", 2);
        r.is("alone 2 0", 3);
        r.takes("stories", EdgeTest.again("people 0 in 1 to 1;", 11) + "people 0 in 9 to 9;", 12);
        r.is("alone 2 0", 2);
        r.is("alone 2 5", 0);
        r.anew(EdgeTest.untaped());
        r.refuses("stories", "beast 10 in 0 to 1;", 3, 6);
        r.refuses("stories", "people 6 in 0 to 1;", 3, 7);
        r.refuses("stories", "people 9 in 0 to 1;", 3, 7);
        r.refuses("stories", "beast 1 in 401 to 401;", 3, 11);
        r.refuses("stories", "beast 1 in 0 to 401;", 3, 16);
        r.refuses("stories", "people 1 in 9 to 8;", 3, 17);
        r.refuses("stories", "beast 1 in 400 to 399;", 3, 18);
        r.refuses("stories", EdgeTest.again("beast 1 in 1 to 1;", 12) + "beast", 4, 216);
        r.refuses("stories", EdgeTest.again("beast 1 in 1 to 1;", 12) + "people 1 in 1 to 1;", 4, 216);
        r.refuses("stories", "rate 5;", 2, 0);
        r.refuses("stories", "scrape over;", 2, 0);
        r.takes("stories", "people 1 in 9 to 9;", 1);
    }

    private static void scrapers(Runs r) {
        r.about(0, "cheap 1 to 99, cave 0 to 5; at most 12 RULES.");
        r.takes("scrapers", "scrape over if cheap 1 or cheap 99 or cave 0 or cave 5;", 1);
        r.takes("scrapers", EdgeTest.again("scrape over;", 12), 12);
        r.is("count 14", 12);
        r.anew(EdgeTest.untaped());
        r.refuses("scrapers", "scrape over if cheap 0;", 3, 21);
        r.refuses("scrapers", "scrape over if cheap 100;", 3, 21);
        r.refuses("scrapers", "scrape over if cave 6;", 3, 20);
        r.refuses("scrapers", "scrape over if cave 10;", 3, 20);
        r.refuses("scrapers", EdgeTest.again("scrape over;", 12) + "scrape", 4, 144);
        r.refuses("scrapers", EdgeTest.again("scrape under;", 12) + "\nscrape over;", 4, 157);

        // the longest TESTS, again and again: each text is read anew
        r.anew("paint 0 0 0", "skin 0 1 0 1");
        String longest = "scrape over if " + "hand and ".repeat(41) + "hand;";
        for (int i = 0; i < 8; i++) {
            r.takes("scrapers", longest, 1);
        }
        r.is("follow 1 0", 0);
        r.takes("scrapers", "scrape over if not hand or disc;", 1);
        r.is("follow 1 0", NONE);
        r.takes("scrapers", "scrape over if not disc and hand;", 1);
        r.is("follow 1 0", 0);
        r.takes("scrapers", "scrape over if " + "disc or ".repeat(46) + "disc;", 1);
        r.is("follow 1 0", NONE);
        r.takes("scrapers", "scrape over if " + "disc or ".repeat(46) + "hand;", 1);
        r.is("follow 1 0", 0);

        r.about(0, "RULE: scrape KIND [ if TEST ].   KIND: over | under | beside.   TEST: PART { or PART }.   PART: FACT { and FACT }.   FACT: not FACT | ( TEST ) | cheap N | cave N | hand | disc | beast | sign | bare | open.");
        r.does(EdgeTest.untaped());
        String[] facts = {"cheap 5", "cave 5", "hand", "disc", "beast", "sign", "bare", "open", "not hand", "(hand)"};
        for (String fact : facts) {
            r.takes("scrapers", "scrape under if " + fact + ";", 1);
        }
        String[] stops = {"rate", "people", "over", "under", "beside", "scrape", "if", "or", "and", ")", ";", "5", "to", "in", "hands", "han"};
        for (String stop : stops) {
            r.refuses("scrapers", "scrape over if " + stop + ";", 2, 15);
        }
        r.refuses("scrapers", "scrape rate;", 2, 7);
        r.refuses("scrapers", "scrape open;", 2, 7);
        r.refuses("scrapers", "scrape if hand;", 2, 7);

        r.about(11, "The same are SCRAPERS: likewise, RULES.");
        r.does(EdgeTest.untaped());
        r.refuses("scrapers", "scrape;", 2, 6);
        r.refuses("scrapers", "scrape over", 2, 11);
        r.refuses("scrapers", "scrape over hand;", 2, 12);
        r.refuses("scrapers", "scrape over if;", 2, 14);
        r.refuses("scrapers", "scrape over if", 2, 14);
        r.refuses("scrapers", "scrape over if hand disc;", 2, 20);
        r.refuses("scrapers", "scrape over if hand not disc;", 2, 20);
        r.refuses("scrapers", "scrape over if hand and;", 2, 23);
        r.refuses("scrapers", "scrape over if hand or;", 2, 22);
        r.refuses("scrapers", "scrape over if hand or or disc;", 2, 23);
        r.refuses("scrapers", "scrape over if not;", 2, 18);
        r.refuses("scrapers", "scrape over if ();", 2, 16);
        r.refuses("scrapers", "scrape over if (hand;", 2, 20);
        r.refuses("scrapers", "scrape over if (hand", 2, 20);
        r.refuses("scrapers", "scrape over if hand);", 2, 19);
        r.refuses("scrapers", "scrape over if cheap;", 2, 20);
        r.refuses("scrapers", "scrape over if cave hand;", 2, 20);
        r.refuses("scrapers", "scrape over if hand 5;", 2, 20);
        r.refuses("scrapers", "scrape over;;", 2, 12);
        r.refuses("scrapers", "over;", 2, 0);
    }

    private static void tokens(Runs r) {
        r.about(0, "TOKENS of all three, as long as they go, between them blanks (10, 32): words (small letters), N (1 to 3 digits), the signs ; ( ).");
        r.does(EdgeTest.untaped());
        r.takes("law", " \n rate \n\n 5\n;\n ", 1);
        r.takes("law", "rate5;off 5;", 2);
        r.takes("law", "rate 005;off 05;thin 000;", 3);
        r.is("count 7", 5);
        r.takes("law", " ", 0);
        r.takes("law", "\n", 0);
        r.takes("scrapers", "scrape over if(hand)and(not(disc));scrape under;", 2);
        r.refuses("law", "rate 5 5;", 2, 7);
        r.refuses("law", "ra te 5;", 2, 0);
        r.refuses("law", "rateoff 5;", 2, 0);
        r.refuses("law", "rat 5;", 2, 0);
        r.refuses("law", "rates 5;", 2, 0);
        r.refuses("law", "rate 5 ; of", 2, 9);
        r.refuses("law", "rate (;", 2, 5);
        r.refuses("law", "rate );", 2, 5);
        // the bytes next to those of blanks, letters, digits and signs
        int[] strange = {0, 9, 11, 13, 31, 33, 39, 42, 47, 58, 60, 64, 65, 90, 96, 123, 127, 128, 160, 202, 255};
        for (int c : strange) {
            r.anew();
            r.refuses("law", "rate 5" + (char) c + ";", 1, 6);
        }
        r.anew();
        r.refuses("law", "a;", 2, 0);
        r.refuses("law", "z;", 2, 0);
        r.refuses("law", "0;", 2, 0);
        r.refuses("law", "9;", 2, 0);
    }

    private static void faults(Runs r) {
        r.about(0, "FAULTS, the first along the text, of one TOKEN the least kind:");
        r.does(EdgeTest.untaped());
        r.refuses("law", "rate 0; ?", 3, 5);
        r.refuses("law", "? rate 0;", 1, 0);
        r.refuses("law", "rate ; rate 0;", 2, 5);
        r.refuses("law", "rate 0 rate;", 3, 5);
        r.refuses("law", "dirt 100 to 0;", 3, 5);
        // 4 digits where no N can stand, and where a 13th LINE begins
        r.refuses("law", "rate 5 1000;", 1, 7);
        r.refuses("law", EdgeTest.again("off 1;", 12) + "1000;", 1, 72);
        r.refuses("law", EdgeTest.again("off 1;", 12) + "?", 1, 72);
        r.refuses("law", EdgeTest.again("off 1;", 12) + "100;", 2, 72);
        r.refuses("law", EdgeTest.again("off 1;", 12) + ";", 2, 72);
        r.refuses("law", EdgeTest.again("off 1;", 12) + "to", 2, 72);
        r.refuses("law", EdgeTest.again("off 1;", 12) + "off 51;", 4, 72);
        r.refuses("stories", EdgeTest.again("beast 1 in 1 to 1;", 12) + "off 1;", 2, 216);
        r.refuses("scrapers", EdgeTest.again("scrape over;", 12) + "over;", 2, 144);
        r.refuses("scrapers", EdgeTest.again("scrape over;", 11) + "scrape over if cave 6;scrape over;", 3, 152);

        r.about(0, "1 no TOKEN begins so (4 digits and more: at their first).");
        r.does(EdgeTest.untaped());
        r.refuses("law", "thin 0999;", 1, 5);
        r.refuses("law", "thin 0000;", 1, 5);
        r.refuses("law", "thin 00000000001;", 1, 5);
        r.refuses("law", "thin 99999999999;", 1, 5);
        r.refuses("law", "thin 12 34;", 2, 8);
        r.takes("law", "thin 999;", 1);
        r.refuses("law", "thin 5;Rate 5;", 1, 7);
        r.refuses("law", "thin 5 , rate 5;", 1, 7);

        r.about(0, "2 it can't stand there (the end: the text's length).");
        r.does(EdgeTest.untaped());
        r.refuses("law", "rate", 2, 4);
        r.refuses("law", "rate   ", 2, 7);
        r.refuses("law", "rate 5", 2, 6);
        r.refuses("law", "rate 5 \n", 2, 8);
        r.refuses("law", "dirt 5", 2, 6);
        r.refuses("law", "dirt 5 to", 2, 9);
        r.refuses("law", "dirt 5 in 9;", 2, 7);
        r.refuses("law", "dirt to 5;", 2, 5);
        r.refuses("stories", "beast", 2, 5);
        r.refuses("stories", "beast 1", 2, 7);
        r.refuses("stories", "beast 1 to 2;", 2, 8);
        r.refuses("stories", "beast 1 in", 2, 10);
        r.refuses("stories", "beast 1 in 2", 2, 12);
        r.refuses("stories", "beast 1 in 2 in 3;", 2, 13);
        r.refuses("stories", "beast 1 in 2 to", 2, 15);
        r.refuses("stories", "beast 1 in 2 to 3", 2, 17);
        r.refuses("stories", "beast 1 in 2 to 3 4;", 2, 18);
        r.refuses("scrapers", "scrape", 2, 6);
        String full = EdgeTest.again(" ", 396) + "rate";
        r.refuses("law", full, 2, 400);

        r.about(0, "3 N is out of its bounds.");
        r.does(EdgeTest.untaped());
        r.refuses("law", "rate 1;rate 0;rate 100;", 3, 12);
        r.refuses("stories", "people 5 in 0 to 400;people 6 in 0 to 400;", 3, 28);
        r.refuses("scrapers", "scrape over if cave 5 and cave 6;", 3, 31);

        r.about(0, "4 the first TOKEN of a 13th LINE, RULE.");
        r.does(EdgeTest.untaped());
        r.takes("law", EdgeTest.again("off 1;", 12) + "  \n ", 12);
        r.refuses("law", EdgeTest.again("off 1;", 12) + "  \n near 1;", 4, 76);
        r.takes("stories", EdgeTest.again("beast 1 in 1 to 1;", 12), 12);
        r.refuses("stories", EdgeTest.again("beast 1 in 1 to 1;", 13), 4, 216);
        r.takes("scrapers", EdgeTest.again("scrape over;", 12) + " ", 12);
        r.refuses("scrapers", EdgeTest.again("scrape over;", 13), 4, 144);

        nested(r);
    }

    /** Each TOKEN at each place of a LINE or RULE: those that can't stand there are FAULTS of kind 2. */
    private static void places(Runs r) {
        r.about(0, "LINE: rate N | dirt N to N | thin N | off N | leak N | near N.");
        String lines = "rate dirt thin off leak near";
        place(r, "law", "", lines);
        place(r, "law", "off 5;", lines);
        for (String word : lines.split(" ")) {
            place(r, "law", word + " ", "5");
            place(r, "law", word + " 5 ", word.equals("dirt") ? "to" : ";");
        }
        place(r, "law", "dirt 5 to ", "5");
        place(r, "law", "dirt 5 to 5 ", ";");

        r.about(0, "LINE: beast N in N to N | people N in N to N.");
        for (String word : new String[] {"beast", "people"}) {
            place(r, "stories", word + " 5 in 5 to 5;", "beast people");
            place(r, "stories", word + " ", "5");
            place(r, "stories", word + " 5 ", "in");
            place(r, "stories", word + " 5 in ", "5");
            place(r, "stories", word + " 5 in 5 ", "to");
            place(r, "stories", word + " 5 in 5 to ", "5");
            place(r, "stories", word + " 5 in 5 to 5 ", ";");
        }

        r.about(0, "RULE: scrape KIND [ if TEST ].");
        String facts = "not ( cheap cave hand disc beast sign bare open";
        place(r, "scrapers", "", "scrape");
        place(r, "scrapers", "scrape over;", "scrape");
        place(r, "scrapers", "scrape ", "over under beside");
        for (String kind : new String[] {"over", "under", "beside"}) {
            place(r, "scrapers", "scrape " + kind + " ", "if ;");
            place(r, "scrapers", "scrape " + kind + " if ", facts);
        }
        place(r, "scrapers", "scrape over if not ", facts);
        place(r, "scrapers", "scrape over if (", facts);
        place(r, "scrapers", "scrape over if hand or ", facts);
        place(r, "scrapers", "scrape over if hand and ", facts);
        place(r, "scrapers", "scrape over if cheap ", "5");
        place(r, "scrapers", "scrape over if cave ", "5");
        for (String fact : new String[] {"cheap 5", "cave 5", "hand", "disc", "beast", "sign", "bare", "open", "not hand", "(hand)"}) {
            place(r, "scrapers", "scrape over if " + fact + " ", "and or ;");
            place(r, "scrapers", "scrape over if(" + fact + " ", "and or )");
        }
    }

    private static void place(Runs r, String how, String ahead, String fits) {
        String tokens = "rate dirt thin off leak near to beast in people scrape if over under beside or and not cheap cave hand"
                + " disc sign bare open 5 ; ( ) a zz rat rates";
        for (String token : tokens.split(" ")) {
            boolean stands = (" " + fits + " ").contains(" " + token + " ");
            String text = ahead + token;
            r.anew();
            r.reads(how, text, stands && token.equals(";") ? 1 : -12);
            // where the TOKEN can stand, it is the end that can't
            int at = stands && token.equals(";") ? NONE : stands ? text.length() : ahead.length();
            r.is("fault 1", at);
        }
        r.anew();
        r.reads(how, ahead, ahead.isEmpty() || ahead.endsWith(";") ? ahead.isEmpty() ? 0 : 1 : -12);
    }

    private static void nested(Runs r) {
        r.about(0, "5 the 9th not or ( that are open around one another.");
        r.does(EdgeTest.untaped());
        String rule = "scrape over if ";
        r.takes("scrapers", rule + EdgeTest.again("not ", 8) + "hand;", 1);
        r.refuses("scrapers", rule + EdgeTest.again("not ", 9) + "hand;", 5, 47);
        r.takes("scrapers", rule + EdgeTest.again("(", 8) + "hand" + EdgeTest.again(")", 8) + ";", 1);
        r.refuses("scrapers", rule + EdgeTest.again("(", 9) + "hand", 5, 23);
        r.takes("scrapers", rule + EdgeTest.again("not(", 4) + "hand" + EdgeTest.again(")", 4) + ";", 1);
        r.refuses("scrapers", rule + EdgeTest.again("not(", 4) + "not hand", 5, 31);
        r.refuses("scrapers", rule + EdgeTest.again("not(", 4) + "(hand", 5, 31);
        r.anew(EdgeTest.untaped());
        // those that are closed aren't open any more
        r.takes("scrapers", rule + EdgeTest.again("not hand and ", 9) + "not disc;", 1);
        r.takes("scrapers", rule + EdgeTest.again("(hand)or ", 9) + "(disc);", 1);
        r.takes("scrapers", rule + EdgeTest.again("not ", 8) + "hand or " + EdgeTest.again("(", 8) + "disc" + EdgeTest.again(")", 8) + ";", 1);
        r.takes("scrapers", rule + EdgeTest.again("(", 7) + "not hand and(disc)or not sign" + EdgeTest.again(")", 7) + ";", 1);
        r.refuses("scrapers", rule + EdgeTest.again("(", 7) + "not hand and not not sign", 5, 39);
        r.refuses("scrapers", rule + EdgeTest.again("(", 8) + "hand and not", 5, 32);
        r.refuses("scrapers", rule + EdgeTest.again("(", 8) + "hand or(", 5, 30);
        // an end or a sign that can't stand there comes first
        r.refuses("scrapers", rule + EdgeTest.again("not ", 8) + ";", 2, 47);
        r.refuses("scrapers", rule + EdgeTest.again("not ", 8), 2, 47);
        r.refuses("scrapers", rule + EdgeTest.again("(", 8) + "?", 1, 23);
        r.refuses("scrapers", rule + EdgeTest.again("(", 8) + "hand" + EdgeTest.again(")", 7) + ";", 2, 34);
        r.refuses("scrapers", rule + EdgeTest.again("(", 8) + "hand" + EdgeTest.again(")", 9) + ";", 2, 35);
    }

    private static void fault(Runs r) {
        r.about(12, "Of the latest law(), stories() or scrapers() that threw nothing, what 0: the FAULT (0 without, and at first), 1: its place (NONE without). NONE for others.");
        r.is("fault 0", 0);
        r.is("fault 1", NONE);
        String[] bad = {"rate 0;", "people 6;", "scrape over if hand or"};
        int[] kinds = {3, 3, 2};
        int[] places = {5, 7, 22};
        for (int i = 0; i < 3; i++) {
            r.refuses(HOWS[i], bad[i], kinds[i], places[i]);
            for (String how : HOWS) {
                r.still(Runs.IAE, how + " 1", how + " -1");
            }
            r.is("fault 0", kinds[i]);
            r.is("fault 1", places[i]);
        }
        r.still(NONE, "fault -1", "fault 2", "fault -2147483648", "fault 2147483647");
        for (String how : HOWS) {
            r.takes(how, "", 0);
            r.refuses("law", "  !", 1, 2);
        }
        // nothing else changes it
        r.does("paint 0 0 0", "image 0", "restore 0", "feed 0 0 0 0 0");
        r.is("fault 0", 1);
        r.is("fault 1", 2);
        r.still(NONE, "fault 2");
    }
}
