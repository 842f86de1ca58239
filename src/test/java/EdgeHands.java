/** Promises 29 to 36, and the terms TOLD HANDS, LIKE, WHOSE, RINGED, DUE, STUMP, BENT. */
final class EdgeHands {
    private static final int NONE = Runs.NONE;

    private EdgeHands() {
    }

    static void run(Runs r) {
        told(r);
        like(r);
        whose(r);
        ringed(r);
        due(r);
        stumps(r);
        bent(r);
        weights(r);
        throwsInTurn(r);
    }

    private static void told(Runs r) {
        r.about(29, "A TOLD HAND more: how many there are; NONE if there are 40. IllegalArgumentException: a number.");
        r.does(EdgeTest.rich());
        for (int i = 4; i < 40; i++) {
            r.is("told " + i % 4 + " 30 31 32 33 34", i);
        }
        r.is("count 3", 39);
        r.is("told 3 99 99 99 99 99", 40);
        r.is("count 3", 40);
        r.still(NONE, "told 3 99 99 99 99 99", "told 0 1 1 1 1 1");
        r.does("fingers 0 99 99 99 99 99");
        r.is("like 0 -1", 1);
        r.makes("whose 0 3", 1, 1);
        r.still(Runs.IAE, "told 4 1 1 1 1 1", "told 0 1 1 1 1 0");

        r.about(0, "TOLD HANDS, at most 40: a SORT (0 to 3), FIVE lengths (1 to 99).");
        r.does(EdgeTest.untaped());
        r.still(Runs.IAE, "told -1 1 1 1 1 1", "told 4 1 1 1 1 1", "told 2147483647 1 1 1 1 1");
        r.still(Runs.IAE, "told 0 0 1 1 1 1", "told 0 100 1 1 1 1", "told 0 1 0 1 1 1", "told 0 1 100 1 1 1",
                "told 0 1 1 0 1 1", "told 0 1 1 100 1 1", "told 0 1 1 1 0 1", "told 0 1 1 1 100 1",
                "told 0 1 1 1 1 0", "told 0 1 1 1 1 100", "told 0 1 1 1 1 -1", "told 0 -2147483648 1 1 1 1");
        r.is("told 0 1 1 1 1 1", 4);
        r.is("told 3 99 99 99 99 99", 5);
        r.is("told 3 1 2 3 4 5", 6);
        r.takes("law", "near 0;", 1);
        r.does("fingers 0 99 99 99 99 99");
        r.is("like 0 -1", 1);
        r.does("fingers 0 1 2 3 4 5");
        r.is("like 0 -1", 1);
        r.does("fingers 0 1 2 3 4 6");
        r.is("like 0 -1", 0);
    }

    private static void like(Runs r) {
        r.about(30, "How many TOLD HANDS are LIKE a hand but for a finger (NONE: for none). IllegalArgumentException: no such finger.");
        r.does(EdgeTest.rich());
        r.still(Runs.IAE, "like 0 -2", "like 0 5", "like 0 -2147483648", "like 0 2147483647");
        r.still(0, "like 0 -1", "like 0 0", "like 0 4");
        // but for the index, which is 20, two of the three differ by 7 at most
        r.still(2, "like 0 1");
        r.still(3, "like 4 -1", "like 4 0", "like 4 4");

        r.about(0, "One is LIKE a hand, if all fingers that are there (but one, where that is left out) differ by near at most (none there: it is).");
        for (int finger = 0; finger < 5; finger++) {
            r.anew("paint 0 0 0", "fingers 0 50 50 50 50 50", "told 0 " + five(finger, 56), "told 1 " + five(finger, 44),
                    "told 2 " + five(finger, 57), "told 3 " + five(finger, 43));
            r.is("like 0 -1", 2);
            r.is("like 0 " + finger, 4);
            r.is("like 0 " + (finger + 1) % 5, 2);
            r.takes("law", "near 7;", 1);
            r.is("like 0 -1", 4);
            r.takes("law", "near 5;", 1);
            r.is("like 0 -1", 0);
            // where it is not there it does not count
            r.does("fingers 0 " + five(finger, 0));
            r.is("like 0 -1", 4);
        }
        r.anew("paint 0 0 0", "fingers 0 50 50 50 50 50", "told 0 50 50 50 50 50", "told 0 50 50 50 50 51", "told 0 1 1 1 1 1", "told 0 99 99 99 99 99");
        r.takes("law", "near 0;", 1);
        r.is("like 0 -1", 1);
        r.takes("law", "near 49;", 1);
        r.is("like 0 -1", 4);
        r.takes("law", "near 48;", 1);
        r.is("like 0 -1", 2);
        r.does("fingers 0 0 0 0 0 0");
        r.is("like 0 -1", 4);
        r.is("like 0 2", 4);
    }

    /** Fingers of 50, but for one. */
    private static String five(int finger, int length) {
        StringBuilder s = new StringBuilder();
        for (int i = 0; i < 5; i++) {
            s.append(i == 0 ? "" : " ").append(i == finger ? length : 50);
        }
        return s.toString();
    }

    private static void whose(Runs r) {
        r.about(31, "WHOSE is the FRACTION: true; 0 over 0: false. IllegalArgumentException: no such SORT.");
        r.does(EdgeTest.rich());
        r.still(Runs.IAE, "whose 0 -1", "whose 0 4", "whose 0 2147483647", "whose 0 -2147483648");
        r.makes("whose 4 0", 1, 3);
        r.makes("whose 4 3", 0, 0);
        r.makes("whose 0 0", 0, 0);

        r.about(0, "WHOSE of a hand and a SORT: of each SORT that has TOLD HANDS the part of them that is LIKE it; that of this SORT by all these together; 0 over 0 if these are 0, or the SORT has none.");
        r.does("paint 0 0 0", "fingers 0 50 50 50 50 50");
        for (int sort = 0; sort < 4; sort++) {
            r.makes("whose 0 " + sort, 0, 0);
        }
        r.does("told 0 90 90 90 90 90");
        r.makes("whose 0 0", 0, 0);
        r.makes("whose 0 1", 0, 0);
        // SORT 3: 1 of 2; SORT 0: 0 of 1
        r.does("told 3 50 50 50 50 50", "told 3 57 50 50 50 50");
        r.makes("whose 0 3", 1, 1);
        r.makes("whose 0 0", 0, 1);
        r.makes("whose 0 1", 0, 0);
        // SORT 1: 2 of 3
        r.does("told 1 50 50 50 50 50", "told 1 44 50 50 50 56", "told 1 43 50 50 50 50");
        r.makes("whose 0 1", 4, 7);
        r.makes("whose 0 3", 3, 7);
        r.makes("whose 0 0", 0, 1);
        r.makes("whose 0 2", 0, 0);
        // SORT 0: 2 of 3, SORT 2: 1 of 2
        r.anew("paint 0 0 0", "fingers 0 50 50 50 50 50", "told 0 50 50 50 50 50", "told 0 50 50 50 50 50", "told 0 1 1 1 1 1",
                "told 2 50 50 50 50 50", "told 2 1 1 1 1 1");
        r.makes("whose 0 0", 4, 7);
        r.makes("whose 0 2", 3, 7);
        // ten of each, of which 1, 2, 3 and 4 are LIKE it
        r.anew("paint 0 0 0", "fingers 0 50 50 50 50 50");
        for (int i = 0; i < 40; i++) {
            r.does("told " + i % 4 + (i / 4 <= i % 4 ? " 50 50 50 50 50" : " 50 50 50 50 57"));
        }
        for (int sort = 0; sort < 4; sort++) {
            int common = sort == 1 ? 2 : 1;
            r.makes("whose 0 " + sort, sort == 3 ? 2 : (sort + 1) / common, sort == 3 ? 5 : 10 / common);
        }
    }

    private static void ringed(Runs r) {
        r.about(32, "RINGED is the FRACTION: likewise.");
        r.does(EdgeTest.rich());
        r.still(Runs.IAE, "ringed 0 -1", "ringed 0 4", "ringed 0 2147483647", "ringed 0 -2147483648");
        r.makes("ringed 0 0", 1, 1);
        r.makes("ringed 0 3", 0, 0);
        r.makes("ringed 4 0", 0, 0);

        r.about(0, "RINGED of a hand and a SORT: of TOLD HANDS of the SORT those whose ring finger stands to the index as in the hand (longer, as long, shorter); 0 over 0 without both fingers, or TOLD HANDS.");
        r.does("paint 0 0 0", "fingers 0 1 60 1 61 1");
        r.makes("ringed 0 0", 0, 0);
        r.does("told 0 9 40 9 41 9", "told 0 9 40 9 40 9", "told 0 9 40 9 39 9", "told 0 9 1 9 99 9", "told 3 9 40 9 40 9");
        r.makes("ringed 0 0", 1, 2);
        r.makes("ringed 0 3", 0, 1);
        r.makes("ringed 0 1", 0, 0);
        r.does("fingers 0 0 60 0 60 0");
        r.makes("ringed 0 0", 1, 4);
        r.makes("ringed 0 3", 1, 1);
        r.does("fingers 0 0 60 0 59 0");
        r.makes("ringed 0 0", 1, 4);
        r.makes("ringed 0 3", 0, 1);
        r.does("fingers 0 9 60 9 0 9");
        r.makes("ringed 0 0", 0, 0);
        r.does("fingers 0 9 0 9 60 9");
        r.makes("ringed 0 0", 0, 0);
        r.does("fingers 0 9 0 9 0 9");
        r.makes("ringed 0 0", 0, 0);
        r.does("fingers 0 0 1 0 1 0");
        r.makes("ringed 0 0", 1, 4);
    }

    private static void due(Runs r) {
        r.about(33, "DUE of a finger; NONE. IllegalArgumentException: no such finger.");
        r.does(EdgeTest.rich());
        r.still(Runs.IAE, "due 0 -1", "due 0 5", "due 0 -2147483648", "due 0 2147483647");
        r.still(52, "due 0 1");
        r.still(NONE, "due 0 0", "due 0 4");
        r.anew("paint 0 0 0");
        r.still(NONE, "due 0 0", "due 0 4");

        r.about(0, "DUE of a finger: the mean (cut) of it in TOLD HANDS that are LIKE the hand but for it; NONE without.");
        for (int finger = 0; finger < 5; finger++) {
            r.anew("paint 0 0 0", "fingers 0 " + five(finger, 10), "told 0 " + five(finger, 60));
            r.is("due 0 " + finger, 60);
            r.does("told 3 " + five(finger, 61));
            r.is("due 0 " + finger, 60);
            r.does("told 3 " + five(finger, 62), "told 1 " + five(finger, 65));
            r.is("due 0 " + finger, 62);
            r.does("told 2 " + five((finger + 1) % 5, 57));
            r.is("due 0 " + finger, 62);
            r.is("due 0 " + (finger + 1) % 5, NONE);
            r.does("fingers 0 " + five(finger, 99));
            r.is("due 0 " + finger, 62);
        }
    }

    private static void stumps(Runs r) {
        r.about(34, "STUMPS of a hand as bits.");
        r.does(EdgeTest.rich());
        r.still(2, "stumps 0");
        r.still(31, "stumps 4");
        for (int finger = 0; finger < 5; finger++) {
            r.does("fingers 0 " + new String[] {"20 52 55 55 55", "50 20 55 55 55", "50 52 20 55 55", "50 52 55 20 55", "50 52 55 55 20"}[finger]);
            r.is("stumps 0", 1 << finger);
        }

        r.about(0, "STUMP: 2 times its length is below DUE.");
        r.does("paint 0 0 0", "told 0 50 50 50 50 50");
        r.does("fingers 0 50 50 50 50 24");
        r.is("stumps 0", 16);
        r.does("fingers 0 50 50 50 50 25");
        r.is("stumps 0", 0);
        r.does("told 0 50 50 50 50 52");
        r.is("due 0 4", 51);
        r.is("stumps 0", 16);
        r.does("fingers 0 50 50 50 50 26");
        r.is("stumps 0", 0);
        r.does("fingers 0 0 50 50 50 50");
        r.is("stumps 0", 1);
        // without DUE there is none, not even of one that is not there
        r.anew("paint 0 0 0");
        r.is("stumps 0", 0);
        r.does("told 0 1 1 1 1 1");
        r.is("stumps 0", 31);
        r.does("fingers 0 1 1 1 1 1");
        r.is("stumps 0", 0);
    }

    private static void bent(Runs r) {
        r.about(35, "BENT is the FRACTION: true; 0 over 0: false. IllegalArgumentException: no such finger.");
        r.does(EdgeTest.rich());
        r.still(Runs.IAE, "bent 0 -1", "bent 0 5", "bent 0 -2147483648", "bent 0 2147483647");
        r.makes("bent 0 1", 4, 5);
        r.makes("bent 0 0", 0, 0);

        r.about(0, "BENT of a STUMP: its PART being 10 times its length by DUE (cut; 0 to 4): weight of BENT by weight of BENT and GONE for that PART (1 each at first; 0 to 99): 0 over 0 if both are 0, or it is no STUMP.");
        r.does("paint 0 0 0", "told 0 50 50 50 50 50");
        for (int part = 0; part < 5; part++) {
            r.does("fingers 0 50 50 50 50 " + 5 * part);
            r.makes("bent 0 4", 1, 2);
        }
        r.does(EdgeTest.tray(0, 0, 1, 2, 3, 4, 5));
        r.is("weights false 0", true);
        r.does(EdgeTest.tray(0, 0, 99, 97, 96, 93, 96));
        r.is("weights true 0", true);
        long[][] due = {{1, 100}, {2, 99}, {1, 33}, {4, 97}, {5, 101}};
        for (int part = 0; part < 5; part++) {
            r.does("fingers 0 50 50 50 50 " + 5 * part);
            r.makes("bent 0 4", due[part][0], due[part][1]);
            r.does("fingers 0 50 50 50 50 " + (5 * part + 4));
            r.makes("bent 0 4", due[part][0], due[part][1]);
        }
        r.does("fingers 0 50 50 50 50 25");
        r.makes("bent 0 4", 0, 0);
        r.does("fingers 0 50 50 50 50 50");
        r.makes("bent 0 4", 0, 0);
        r.does(EdgeTest.tray(0, 0, 0, 99, 0, 0, 0));
        r.is("weights true 0", true);
        r.does("fingers 0 50 50 50 50 0");
        r.makes("bent 0 4", 1, 1);
        r.is("weights false 0", true);
        r.makes("bent 0 4", 0, 0);
        r.does("fingers 0 50 50 50 50 5");
        r.makes("bent 0 4", 1, 2);
        r.does(EdgeTest.tray(0, 0, 1, 0, 1, 1, 1));
        r.is("weights false 0", true);
        r.makes("bent 0 4", 0, 1);
        r.anew("paint 0 0 0");
        r.makes("bent 0 0", 0, 0);
        // the least DUE that there is
        r.does("told 0 1 1 1 1 1");
        r.makes("bent 0 0", 1, 2);
    }

    private static void weights(Runs r) {
        r.about(36, "Weights of BENT (gone: of GONE) for PARTS 0 to 4 are the numbers of a TRAY: true; false, and nothing changes, if these are not 5, or one isn't 0 to 99.");
        for (int sort = 0; sort < 4; sort++) {
            r.anew(EdgeTest.rich());
            r.does(EdgeTest.tray(2, sort, 0, 99, 0, 99, 5));
            r.is("weights true 2", true);
            for (int part = 0; part < 5; part++) {
                r.does("write 2 " + part + " 100");
                r.still(false, "weights true 2", "weights false 2");
                r.does("write 2 " + part + " -1");
                r.still(false, "weights true 2", "weights false 2");
                r.does("write 2 " + part + " 99");
            }
            r.is("weights false 2", true);
        }
        r.anew(EdgeTest.rich());
        for (int many : new int[] {0, 1, 4, 6, 10, 40}) {
            r.does("tray 2 3 " + many);
            r.still(false, "weights true 2", "weights false 2");
        }
        r.does("tray 2 3 5");
        r.is("weights true 2", true);
        r.is("weights false 2", true);
        r.makes("bent 0 1", 0, 0);
        // numbers that are 5 in their lower halves
        r.does(EdgeTest.tray(2, 3, 4294967301L, 5, 5, 5, 5));
        r.still(false, "weights true 2");
        r.does(EdgeTest.tray(2, 3, Long.MIN_VALUE, 5, 5, 5, 5));
        r.still(false, "weights true 2");

        r.about(36, "NoSuchElementException: no such TRAY; IllegalStateException: it is MISSING.");
        r.does(EdgeTest.rich());
        r.still(Runs.NSE, "weights true 4", "weights false 4", "weights true -1", "weights false 2147483647");
        r.still(Runs.ISE, "weights true 2", "weights false 2");
    }

    private static void throwsInTurn(Runs r) {
        r.about(0, "Of several throws of a call that one comes that is told first.");
        r.does(EdgeTest.rich());
        for (String call : new String[] {"like", "whose", "ringed", "due", "bent"}) {
            r.still(Runs.NSE, call + " 7 99", call + " -1 -9");
            r.still(Runs.ISE, call + " 1 99", call + " 2 -9");
            r.still(Runs.IAE, call + " 0 99", call + " 4 -9");
        }
        r.still(Runs.NSE, "stumps 7", "stumps -1");
        r.still(Runs.ISE, "stumps 1", "stumps 6");
    }
}
