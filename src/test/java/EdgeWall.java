/** Promises 1 to 7, and the terms PAINTS, ORDER, SKINS, LAYERS. */
final class EdgeWall {
    private static final int NONE = Runs.NONE;

    private EdgeWall() {
    }

    static void run(Runs r) {
        newObject(r);
        paint(r);
        fingers(r);
        over(r);
        skin(r);
        layer(r);
        of(r);
    }

    private static void newObject(Runs r) {
        r.about(1, "A bare wall; TRAYS are MISSING; an empty tape; no FRACTION.");
        int[] first = {0, 0, 0, 0, 0, 0, 0, 10, 20, 60, 50, 5, 10, 6, 0};
        for (int i = 0; i < first.length; i++) {
            r.is("count " + i, first[i]);
        }
        r.is("upper", 0);
        r.is("lower", 0);
        r.is("fault 0", 0);
        r.is("fault 1", NONE);
        r.is("count 100", NONE);
        for (int tray = 0; tray < 4; tray++) {
            r.still(Runs.ISE, "write " + tray + " 0 0", "weights true " + tray, "weights false " + tray);
        }
        r.still(Runs.ISE, "restore 0", "restore 1", "restore 2");
        r.still(Runs.NSE, "of 0 0", "sort 0", "bound 0 true");
        r.still(Runs.IAE, "law 1", "stories 1", "scrapers 1");
        r.is("clash -1", 0);
        r.is("clash 0", NONE);
        r.is("plan 999 0", 0);
        r.is("plan 999 1", 0);
        r.is("plan 999 2", 0);
        r.is("follow 999 -1", 0);
        r.is("follow 999 0", NONE);
        r.is("behind 999", 0);
        r.is("spread 0", 0);
        r.is("first 0", NONE);
        r.is("law 0", 0);

        r.about(0, "The constants: `NONE = -1`: There is none.");
        r.is("fault 2", RedHands.NONE);
        r.is("fault 3", -1);
    }

    private static void paint(Runs r) {
        r.about(2, "A PAINT more: its number; NONE if there are 30.");
        for (int i = 0; i < 29; i++) {
            r.is("paint " + i % 4 + " " + i % 6 + " " + i % 10, i);
        }
        r.is("count 0", 29);
        r.is("paint 1 5 9", 29);
        r.is("count 0", 30);
        r.still(NONE, "paint 1 5 9", "paint 0 0 0");
        r.is("count 0", 30);
        r.is("of 29 2", 9);
        r.still(Runs.NSE, "of 30 0");

        r.about(2, "IllegalArgumentException: a number.");
        r.does(EdgeTest.times(29, "paint 0 0 0"));
        r.still(Runs.IAE, "paint 4 0 0");
        r.does("paint 0 0 0");
        r.still(Runs.IAE, "paint 4 0 0", "paint 0 6 0", "paint 0 0 10");

        r.about(0, "PAINTS, at most 30, numbered as they come: a KIND (0 hand, 1 disc, 2 beast, 3 sign), a CAVE (0 to 5), a WHAT (0 to 9: a beast's sort, a sign's).");
        r.does(EdgeTest.rich());
        r.still(Runs.IAE, "paint -1 0 0", "paint 4 0 0", "paint -2147483648 0 0", "paint 2147483647 0 0");
        r.still(Runs.IAE, "paint 0 -1 0", "paint 0 6 0", "paint 0 -2147483648 0", "paint 0 2147483647 0");
        r.still(Runs.IAE, "paint 0 0 -1", "paint 0 0 10", "paint 0 0 -2147483648", "paint 0 0 2147483647");
        r.is("paint 0 0 0", 7);
        r.is("paint 3 5 9", 8);
        r.is("of 8 0", 3);
        r.is("of 8 1", 5);
        r.is("of 8 2", 9);
        // no other KIND is a hand
        r.does("paint 1 0 0", "paint 2 0 0", "fingers 7 1 1 1 1 1");
        r.still(Runs.ISE, "stumps 8", "stumps 9", "stumps 10");
        for (int i = 11; i < 30; i++) {
            r.is("paint 3 5 9", i);
        }
        r.still(NONE, "paint 3 5 9");
    }

    private static void fingers(Runs r) {
        r.about(0, "FIVE lengths of fingers (0 to 99; 0 at first: it is not there) of a hand: 0 thumb, 1 index, 2 middle, 3 ring, 4 little.");
        r.does(EdgeTest.rich());
        for (int i = 3; i < 8; i++) {
            r.is("of 4 " + i, 0);
        }
        r.still(Runs.IAE, "fingers 0 -1 1 1 1 1", "fingers 0 100 1 1 1 1", "fingers 0 1 -1 1 1 1", "fingers 0 1 100 1 1 1",
                "fingers 0 1 1 -1 1 1", "fingers 0 1 1 100 1 1", "fingers 0 1 1 1 -1 1", "fingers 0 1 1 1 100 1",
                "fingers 0 1 1 1 1 -1", "fingers 0 1 1 1 1 100", "fingers 0 1 1 1 1 -2147483648",
                "fingers 0 2147483647 1 1 1 1");
        r.does("fingers 0 0 99 0 99 0");
        for (int i = 0; i < 5; i++) {
            r.is("of 0 " + (3 + i), i % 2 == 0 ? 0 : 99);
        }
        r.does("fingers 0 1 2 3 4 5", "fingers 4 99 0 99 0 99");
        for (int i = 0; i < 5; i++) {
            r.is("of 0 " + (3 + i), i + 1);
        }
        // of the last PAINT that can come, too
        r.anew(EdgeTest.times(30, "paint 0 0 0"));
        r.does("fingers 29 6 7 8 9 10", "fingers 28 1 2 3 4 5");
        for (int i = 0; i < 5; i++) {
            r.is("of 28 " + (3 + i), i + 1);
            r.is("of 29 " + (3 + i), i + 6);
        }
        // a finger that is not there hinders nothing: a TOLD HAND differs from it by more than near
        r.anew("paint 0 0 0", "told 0 99 99 99 99 99");
        r.is("like 0 -1", 1);
        r.does("fingers 0 0 0 0 0 1");
        r.is("like 0 -1", 0);

        r.about(3, "NoSuchElementException: no such PAINT (as everywhere)");
        r.does(EdgeTest.rich());
        r.still(Runs.NSE, "fingers -1 1 1 1 1 1", "fingers 7 1 1 1 1 1", "fingers 30 1 1 1 1 1",
                "fingers 2147483647 1 1 1 1 1", "fingers -2147483648 1 1 1 1 1");
        for (String other : everywhereOfPaint()) {
            r.still(Runs.NSE, other.replace("P", "-1"), other.replace("P", "7"), other.replace("P", "30"));
        }

        r.about(3, "IllegalStateException: it is no hand (as everywhere where one is asked)");
        r.does(EdgeTest.rich());
        String[] asked = {"fingers P 1 1 1 1 1", "like P -1", "whose P 0", "ringed P 0", "due P 0", "stumps P", "bent P 0"};
        for (String call : asked) {
            r.still(Runs.ISE, call.replace("P", "1"), call.replace("P", "2"), call.replace("P", "3"));
        }

        r.about(3, "IllegalArgumentException: a length.");
        r.does(EdgeTest.rich());
        r.still(Runs.IAE, "fingers 0 1 1 1 1 100", "fingers 4 -1 0 0 0 0");
        r.does("fingers 0 0 0 0 0 99");
        r.is("of 0 7", 99);

        r.about(0, "Of several throws of a call that one comes that is told first.");
        r.does(EdgeTest.rich());
        r.still(Runs.NSE, "fingers 7 100 1 1 1 1", "fingers -1 -1 1 1 1 1");
        r.still(Runs.ISE, "fingers 1 100 1 1 1 1", "fingers 3 1 1 1 1 -1");
    }

    /** Calls that ask for a PAINT, P; what else they ask for is there. */
    private static String[] everywhereOfPaint() {
        return new String[] {"over P 0", "over 0 P", "skin 0 1 P 1", "skin 0 2 P 1", "of P 0", "bound P false",
            "bound P true", "ring P", "above P 0", "above 0 P", "rests P", "older P 1", "like P -1", "whose P 0",
            "ringed P 0", "due P 0", "stumps P", "bent P 0", "times P 0", "who P 0", "alone P 0", "say P"};
    }

    private static void over(Runs r) {
        r.about(4, "One PAINT lies over another one: true; false, and nothing changes, if there are 40 of ORDER, or these two are told (either way).");
        r.does(EdgeTest.rich());
        r.still(false, "over 1 0", "over 0 1", "over 2 1", "over 1 2");
        r.is("over 0 2", true);
        r.still(false, "over 2 0", "over 0 2");
        r.is("of 2 8", 1);
        r.is("of 0 8", 1);
        fortyOrders(r, 39);
        r.is("count 2", 39);
        r.is("over 9 8", true);
        r.is("count 2", 40);
        // a 41st of two that aren't told, and one of two that are
        r.still(false, "over 8 10", "over 10 8", "over 9 8", "over 8 9");
        r.is("above 8 10", false);

        r.about(0, "ORDER, at most 40: one PAINT lies over another one of its CAVE (each two told once).");
        fortyOrders(r, 40);
        r.is("count 2", 40);
        r.still(false, "over 9 10", "over 10 9");
        r.still(Runs.IAE, "over 9 9", "over 9 11");
        r.still(Runs.NSE, "over 9 12");

        r.about(4, "IllegalArgumentException: both are one, or not of one CAVE.");
        r.does(EdgeTest.rich());
        r.still(Runs.IAE, "over 0 0", "over 6 6", "over 0 3", "over 3 0", "over 5 6");
        r.is("over 3 4", true);
        r.still(Runs.NSE, "over -1 -1", "over 7 7", "over 7 0", "over 0 7", "over 3 -1");
    }

    /** Twelve PAINTS, of which 11 lie in CAVE 0, and so many of ORDER; 8 and 9 are not told, nor 10 with either. */
    private static void fortyOrders(Runs r, int many) {
        r.anew();
        for (int i = 0; i < 12; i++) {
            r.does("paint 1 " + (i == 11 ? 1 : 0) + " 0");
        }
        int told = 0;
        for (int upper = 0; upper < 8; upper++) {
            for (int lower = upper + 1; lower < 10 && told < many; lower++) {
                r.is("over " + upper + " " + lower, true);
                told++;
            }
        }
    }

    private static void skin(Runs r) {
        r.about(5, "A SKIN more (lies 0 BESIDE, 1 OVER, 2 UNDER a PAINT, which is asked for 1 and 2 alone): its number; NONE if there are 30.");
        r.does(EdgeTest.rich());
        r.is("skin 5 0 -1 1", 5);
        r.is("skin 5 0 2147483647 99", 6);
        // BESIDE, its CAVE need not be that of the PAINT that nobody asks for
        r.is("skin 4 0 0 5", 7);
        r.still(Runs.NSE, "skin 0 1 -1 5", "skin 0 2 -1 5", "skin 0 1 7 5", "skin 0 2 7 5");
        for (int i = 8; i < 29; i++) {
            r.is("skin 0 " + i % 3 + " 0 9", i);
        }
        r.is("count 1", 29);
        r.is("skin 0 2 1 9", 29);
        r.is("count 1", 30);
        r.is("count 129", 0);
        r.still(NONE, "skin 0 2 1 9", "skin 0 0 0 1", "skin 0 1 1 99");
        r.still(Runs.IAE, "skin 0 2 1 0", "skin 1 2 1 9");
        r.still(Runs.NSE, "skin 0 2 7 9");

        r.about(5, "NoSuchElementException: the PAINT; IllegalArgumentException: a number, the PAINT is of another CAVE.");
        r.does(EdgeTest.rich());
        r.still(Runs.NSE, "skin 9 1 7 0", "skin -1 2 -1 100", "skin 1 2 7 5");
        r.still(Runs.IAE, "skin -1 0 0 5", "skin 6 0 0 5", "skin -1 1 0 5", "skin 6 2 0 5");
        // no PAINT is asked for where lies is no number for it
        r.still(Runs.IAE, "skin 0 -1 0 5", "skin 0 3 0 5", "skin 0 3 -1 5", "skin 0 -1 99 5", "skin 0 2147483647 0 5");
        r.still(Runs.IAE, "skin 0 0 0 0", "skin 0 0 0 100", "skin 0 1 0 0", "skin 0 2 0 100", "skin 0 1 0 -1");
        r.still(Runs.IAE, "skin 1 1 0 5", "skin 1 2 0 5", "skin 0 1 3 5", "skin 5 2 4 5");
        r.is("skin 0 1 0 1", 5);
        r.is("skin 1 2 4 99", 6);

        r.about(0, "SKINS, at most 30, numbered as they come: a CAVE; BESIDE, or OVER, or UNDER a PAINT of it; GRAINS (1 to 99) that scraping takes.");
        for (int i = 0; i < 30; i++) {
            r.is("skin " + i % 6 + " 0 0 " + (i == 0 ? 1 : i == 1 ? 99 : 50), i);
        }
        r.still(NONE, "skin 0 0 0 1");
        r.does(Runs.fed("scrape beside;").get(0), "scrapers 14");
        r.is("follow 1 0", 0);
        r.is("follow 0 0", NONE);
        r.is("count 1", 30);
    }

    private static void layer(Runs r) {
        r.about(6, "A LAYER more, inwards: how many it has; NONE if these are 4.");
        r.does(EdgeTest.rich());
        r.is("layer 3 1 1 1", 3);
        r.is("layer 3 2 1000 2", 4);
        r.is("count 103", 4);
        r.still(NONE, "layer 3 2 1000 2", "layer 3 0 0 0");
        r.is("count 103", 4);
        r.is("layer 4 0 1000 0", 1);
        // of an OVER SKIN the innermost SAYS: the one that comes last
        r.is("says 4", 0);
        r.does("layer 4 500 1000 0");
        r.is("says 4", 66);

        r.about(6, "NoSuchElementException: no such SKIN (as everywhere)");
        r.does(EdgeTest.rich());
        String[] asked = {"layer K 1 1 1", "span K 0 true", "sort K", "says K", "leaked K", "drip K 1 1 1 1 1", "pour K 1"};
        for (String call : asked) {
            r.still(Runs.NSE, call.replace("K", "-1"), call.replace("K", "5"), call.replace("K", "30"),
                    call.replace("K", "2147483647"), call.replace("K", "-2147483648"));
        }
        r.still(Runs.NSE, "layer 5 10000 0 0", "layer -1 0 -1 0");

        r.about(6, "IllegalArgumentException: a count.");
        r.does(EdgeTest.rich());
        r.still(Runs.IAE, "layer 3 -1 0 0", "layer 3 10000 0 0", "layer 3 0 -1 0", "layer 3 0 10000 0", "layer 3 0 0 -1",
                "layer 3 0 0 10000", "layer 3 2147483647 0 0", "layer 3 0 0 -2147483648");
        r.does("layer 3 0 0 0", "layer 3 1 1 1");
        r.still(Runs.IAE, "layer 3 10000 0 0");

        r.about(0, "LAYERS of a SKIN, at most 4, as it is scraped from outside inwards: counts a, b, d (0 to 9999 each).");
        r.does("skin 0 0 0 1");
        r.is("layer 0 0 9999 0", 1);
        r.is("layer 0 9999 9999 9999", 2);
        r.is("layer 0 100 1000 0", 3);
        r.is("layer 0 0 0 0", 4);
        r.still(NONE, "layer 0 0 9999 0");
        r.is("span 0 0 true", 0);
        r.is("span 0 1 true", 400);
        r.is("span 0 2 true", 12);
        r.is("span 0 3 true", NONE);
    }

    private static void of(Runs r) {
        r.about(7, "Of a PAINT, what 0: KIND, 1: CAVE, 2: WHAT, 3 to 7: FIVE, 8: how many lie over it by ORDER as told.");
        r.does("paint 0 4 7", "paint 3 4 9", "paint 2 4 1", "over 1 0", "over 2 1", "fingers 0 11 12 13 14 15");
        int[] hand = {0, 4, 7, 11, 12, 13, 14, 15, 1};
        int[] sign = {3, 4, 9, 0, 0, 0, 0, 0, 1};
        int[] beast = {2, 4, 1, 0, 0, 0, 0, 0, 0};
        for (int i = 0; i < 9; i++) {
            r.is("of 0 " + i, hand[i]);
            r.is("of 1 " + i, sign[i]);
            r.is("of 2 " + i, beast[i]);
        }
        // 2 lies over 0 on and on, which is not told; once it is, there are two
        r.does("over 2 0");
        r.is("of 0 8", 2);

        r.about(7, "IllegalArgumentException: another what.");
        r.does(EdgeTest.rich());
        r.still(Runs.IAE, "of 0 -1", "of 0 9", "of 0 -2147483648", "of 0 2147483647", "of 1 9");
        r.still(Runs.NSE, "of 7 9", "of -1 -1");
        r.is("of 0 0", 0);
        r.is("of 0 8", 1);
    }
}
