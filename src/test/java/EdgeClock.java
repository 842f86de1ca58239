import java.util.ArrayList;
import java.util.List;

/** Promises 13 to 19, and the terms THE CLOCK, THIN, SORT, LEAKED, SAYS, DRIP, TRIAL. */
final class EdgeClock {
    private static final int NONE = Runs.NONE;
    private static final String[] LIES = {"BESIDE", "OVER", "UNDER"};

    private EdgeClock() {
    }

    static void run(Runs r) {
        clock(r);
        age(r);
        span(r);
        sort(r);
        says(r);
        leaked(r);
        drip(r);
        trial(r);
    }

    private static void clock(Runs r) {
        r.about(0, "THE CLOCK for counts a, b, d by a share s: g is 10 d s at first; as long as g is below 1000 a, and at most 400 times: it grows by (1000 b less g) times rate by 1000 (cut; by 0, if that is below 0): AGE is how many times that was (400 also, if g is below 1000 a still).");
        // by b 1000: 0, 10000, 19900, 29701
        r.is("age 0 1000 0 0", 0);
        r.is("age 1 1000 0 0", 1);
        r.is("age 10 1000 0 0", 1);
        r.is("age 11 1000 0 0", 2);
        r.is("age 19 1000 0 0", 2);
        r.is("age 20 1000 0 0", 3);
        r.is("age 29 1000 0 0", 3);
        r.is("age 30 1000 0 0", 4);
        // g is 50000 at first
        r.is("age 50 1000 100 50", 0);
        r.is("age 51 1000 100 50", 1);
        r.is("age 50 0 100 50", 0);
        r.is("age 51 0 100 50", 400);
        r.is("age 51 50 100 50", 400);
        r.takes("law", "rate 1;", 1);
        // of 600 it grows by 1 each time: 1000 after 400 times; of 610 it is 10 fewer, of 590 never
        r.is("age 1 2 60 1", 400);
        r.is("age 1 2 61 1", 390);
        r.is("age 1 2 99 1", 10);
        r.is("age 1 2 59 1", 400);
        r.is("age 1 2 0 1", 400);
        // by b 9999 there are 3284227 after 398 times, 3290941 after 399, 3297649 after 400, 3304350 after 401
        r.is("age 3284 9999 0 0", 398);
        r.is("age 3285 9999 0 0", 399);
        r.is("age 3290 9999 0 0", 399);
        r.is("age 3291 9999 0 0", 400);
        r.is("age 3297 9999 0 0", 400);
        r.is("age 3298 9999 0 0", 400);
        r.is("age 9999 9999 0 0", 400);
        r.takes("law", "rate 99;", 1);
        // what it grows by is cut to 0 at 9998990
        r.is("age 9998 9999 0 0", 89);
        r.is("age 9999 9999 0 0", 400);
        r.is("age 9899 9999 9999 99", 0);
        r.is("age 9999 0 9999 99", 400);
        // below 0 it grows by 0: what is there stays
        r.takes("law", "off 0;", 1);
        r.does("skin 0 0 0 1");
        r.is("drip 0 400 0 100 50 1", 50);
        r.is("drip 0 1 49 100 50 1", 50);
        r.is("drip 0 1 150 100 50 1", 51);
    }

    private static void age(Runs r) {
        r.about(13, "AGE for counts by a share (0 to 99). IllegalArgumentException: a number.");
        r.does(EdgeTest.rich());
        r.still(Runs.IAE, "age -1 0 0 0", "age 10000 0 0 0", "age 0 -1 0 0", "age 0 10000 0 0", "age 0 0 -1 0",
                "age 0 0 10000 0", "age 0 0 0 -1", "age 0 0 0 100", "age 2147483647 0 0 0", "age 0 -2147483648 0 0");
        r.still(0, "age 0 0 0 0", "age 0 9999 9999 99", "age 9899 0 9999 99");
        r.still(400, "age 9999 0 0 0", "age 9999 9999 0 0", "age 9899 0 9999 98");
        // by the share, 99 of 100
        r.is("age 99 0 100 99", 0);
        r.is("age 100 0 100 99", 400);
    }

    private static void span(Runs r) {
        r.about(0, "A LAYER is THIN, if its b is below thin; else its LEAST is AGE for a times (100 less off) by 100 (cut), b, d by dirt's second share, its GREATEST AGE for a times (100 and off) by 100 (cut), b, d by the first one.");
        r.does("skin 0 0 0 1");
        // 19 is 18.05 to 19.95, 21 is 19.95 to 22.05: 19900 are there after 2 times, 29701 after 3
        r.does("layer 0 19 1000 0", "layer 0 21 1000 0", "layer 0 60 1000 100", "layer 0 0 50 0");
        spans(r, 0, 2, 2);
        spans(r, 1, 2, 3);
        // 57 to 63: 60000 at first by the second share; 20000, 29800, 39502, 49106, 58614, 68027 by the first
        spans(r, 2, 0, 5);
        spans(r, 3, 0, 0);
        r.takes("law", "off 0;dirt 20 to 20;", 2);
        spans(r, 0, 2, 2);
        spans(r, 1, 3, 3);
        spans(r, 2, 5, 5);
        r.takes("law", "off 50;dirt 60 to 60;thin 51;", 3);
        // 30 to 90: 60000, 69400, 78706, 87918, 97038
        spans(r, 2, 0, 4);
        spans(r, 3, NONE, NONE);
        r.anew("skin 0 0 0 1", "layer 0 0 49 0", "layer 0 0 50 0", "layer 0 0 0 0", "layer 0 0 999 0");
        spans(r, 0, NONE, NONE);
        spans(r, 1, 0, 0);
        spans(r, 2, NONE, NONE);
        r.takes("law", "thin 0;", 1);
        spans(r, 0, 0, 0);
        spans(r, 2, 0, 0);
        r.takes("law", "thin 1;", 1);
        spans(r, 0, 0, 0);
        spans(r, 2, NONE, NONE);
        r.takes("law", "thin 999;", 1);
        spans(r, 1, NONE, NONE);
        spans(r, 3, 0, 0);
        r.anew("skin 0 0 0 1", "layer 0 0 998 0");
        r.takes("law", "thin 999;", 1);
        spans(r, 0, NONE, NONE);

        otherLaws(r);

        r.about(14, "Of a LAYER LEAST, or GREATEST (most); NONE: it is THIN.");
        r.does("skin 0 0 0 1", "layer 0 100 1000 100", "layer 0 100 49 0");
        r.still(4, "span 0 0 false");
        r.still(10, "span 0 0 true");
        r.still(NONE, "span 0 1 false", "span 0 1 true");

        r.about(14, "NoSuchElementException: no such SKIN, LAYER.");
        r.does(EdgeTest.rich());
        r.still(Runs.NSE, "span 5 0 true", "span -1 0 true", "span 3 2 true", "span 3 -1 true", "span 3 4 false",
                "span 2 0 false", "span 3 2147483647 true", "span 3 -2147483648 true");
        r.does("span 3 0 true", "span 3 1 false");
        r.anew("skin 0 0 0 1", "layer 0 1 1 1", "layer 0 1 1 1", "layer 0 1 1 1", "layer 0 1 1 1", "skin 0 0 0 1", "layer 1 1 1 1");
        r.still(NONE, "span 0 3 true");
        r.still(Runs.NSE, "span 0 4 true", "span 1 1 true", "span 2 0 true");
    }

    /** LAYERS are of other ages by another law, as if they had come when it was the law already. */
    private static void otherLaws(Runs r) {
        List<String> layers = new ArrayList<>(List.of("paint 1 0 0"));
        for (int k = 0; k < 30; k++) {
            layers.add("skin 0 " + k % 3 + " 0 1");
            layers.add("layer " + k + " " + (200 + k) + " 1000 " + 90 * k);
        }
        for (int i = 0; i < 3; i++) {
            layers.add("layer 29 " + (300 + i) + " " + (60 - i) + "0 100");
        }
        for (String law : List.of("rate 11;", "dirt 0 to 60;", "dirt 20 to 99;", "off 30;", "thin 600;", "thin 590;", "leak 11;", "near 5;",
                "rate 99;off 50;thin 999;", "")) {
            List<String> read = new ArrayList<>(Runs.fed(law));
            read.add("law " + law.length());
            r.alike("'" + law + "' ahead or behind", joined(read, layers), joined(layers, read), true);
            r.alike("'" + law + "' and back", layers, joined(joined(layers, read), List.of("law 0")), true);
        }
    }

    private static List<String> joined(List<String> some, List<String> more) {
        List<String> all = new ArrayList<>(some);
        all.addAll(more);
        return all;
    }

    private static void spans(Runs r, int layer, int least, int greatest) {
        r.is("span 0 " + layer + " false", least);
        r.is("span 0 " + layer + " true", greatest);
    }

    /** A SKIN that lies so on PAINT 0, of LAYERS of these ages (below 0: a THIN one of great age), by off 0. */
    private static void skin(Runs r, int lies, int... ages) {
        r.anew("paint 0 0 0");
        r.takes("law", "off 0;dirt 0 to 0;", 2);
        r.does("skin 0 " + lies + " 0 1");
        for (int age : ages) {
            r.does(age < 0 ? "layer 0 9000 49 0" : EdgeTest.layer(0, age));
        }
    }

    private static void sort(Runs r) {
        r.about(15, "SORT of a SKIN.");
        for (int lies = 0; lies < LIES.length; lies++) {
            skin(r, lies);
            r.still(0, "sort 0");
            skin(r, lies, -1);
            r.still(1, "sort 0");
            skin(r, lies, 20, 19);
            r.still(2, "sort 0");
            skin(r, lies, 20);
            r.still(3 + lies, "sort 0");
        }
        r.about(0, "SORT of a SKIN, the first that holds: 0 it has no LAYERS; 1 all are THIN; 2 TURNED: of two LAYERS that aren't THIN the outer one's LEAST is above the inner one's GREATEST; 3 BESIDE, 4 OVER, 5 UNDER.");
        sorts(r, 1, 1, -1, -1, -1, -1);
        sorts(r, 1, 4, -1, -1, -1, 7);
        sorts(r, 1, 4, 7, -1, -1, -1);
        sorts(r, 2, 5, 20, 20);
        sorts(r, 2, 5, 20, 21);
        sorts(r, 2, 2, 20, 19);
        sorts(r, 0, 3, 20, 20, 20, 20);
        sorts(r, 0, 2, 20, 20, 20, 19);
        sorts(r, 0, 2, 20, 19, 20, 20);
        sorts(r, 1, 2, 20, 30, 19);
        sorts(r, 1, 2, 20, -1, -1, 19);
        sorts(r, 1, 4, 20, -1, -1, 20);
        sorts(r, 1, 4, -1, 20, -1, 20);
        sorts(r, 1, 2, 20, 30, 40, 39);
        sorts(r, 1, 2, 20, 30, 40, 19);
        sorts(r, 2, 2, 400, 399);
        sorts(r, 2, 2, 1, 0);
        // LEAST of the outer one is just GREATEST of the inner one: 1 and 1, then 2 and 1
        r.anew("paint 0 0 0", "skin 0 1 0 1", "layer 0 10 1000 0", "layer 0 9 1000 0");
        r.is("sort 0", 4);
        r.anew("paint 0 0 0", "skin 0 1 0 1", "layer 0 12 1000 0", "layer 0 9 1000 0");
        r.is("span 0 0 false", 2);
        r.is("span 0 1 true", 1);
        r.is("sort 0", 2);
        r.takes("law", "thin 999;", 1);
        r.is("sort 0", 2);
        r.takes("law", "off 50;", 1);
        r.is("sort 0", 4);
    }

    private static void sorts(Runs r, int lies, int sort, int... ages) {
        skin(r, lies, ages);
        r.is("sort 0", sort);
        r.is("says 0", sort == 4 || sort == 5 ? saysOf(lies, ages) : NONE);
    }

    private static int saysOf(int lies, int[] ages) {
        int says = NONE;
        for (int age : ages) {
            if (age >= 0 && (lies == 1 || says == NONE)) {
                says = age;
            }
        }
        return says;
    }

    private static void says(Runs r) {
        r.about(16, "What a SKIN SAYS; NONE: nothing.");
        skin(r, 1, 20);
        r.still(20, "says 0");
        skin(r, 2, 20);
        r.still(20, "says 0");
        skin(r, 0, 20);
        r.still(NONE, "says 0");
        skin(r, 1);
        r.still(NONE, "says 0");
        skin(r, 1, 0);
        r.still(0, "says 0");
        skin(r, 2, 400);
        r.still(400, "says 0");

        r.about(0, "It SAYS (SORTS 4, 5 alone): OVER: LEAST of the innermost that isn't THIN; UNDER: GREATEST of the outermost that isn't THIN.");
        skin(r, 1, 5, 6, 7, 8);
        r.is("says 0", 8);
        skin(r, 2, 5, 6, 7, 8);
        r.is("says 0", 5);
        skin(r, 1, 5, -1, -1, -1);
        r.is("says 0", 5);
        skin(r, 2, -1, -1, -1, 5);
        r.is("says 0", 5);
        skin(r, 1, -1, 5, 6, -1);
        r.is("says 0", 6);
        skin(r, 2, -1, 5, 6, -1);
        r.is("says 0", 5);
        skin(r, 1, 6, 5);
        r.is("says 0", NONE);
        skin(r, 2, 6, 5);
        r.is("says 0", NONE);
        skin(r, 1, -1, -1);
        r.is("says 0", NONE);
        skin(r, 2, -1, -1);
        r.is("says 0", NONE);
        // LEAST, not GREATEST, where it lies OVER; the other way UNDER
        r.anew("paint 0 0 0", "skin 0 1 0 1", "skin 0 2 0 1", "layer 0 100 1000 100", "layer 1 100 1000 100");
        r.is("says 0", 4);
        r.is("says 1", 10);
    }

    private static void leaked(Runs r) {
        r.about(17, "LEAKED is the FRACTION.");
        r.does(EdgeTest.rich());
        r.makes("leaked 0", 1, 10);
        r.still(Runs.NSE, "leaked 5", "leaked -1");
        r.is("upper", 1);
        r.is("lower", 10);

        r.about(0, "LEAKED of a SKIN: of SORT 0, 1 leak by 100; of 2: 1 over 1; else leak by (leak and (100 less leak) times n!), n being its LAYERS that aren't THIN.");
        for (int lies = 0; lies < LIES.length; lies++) {
            leaks(r, lies, 1, 10);
            leaks(r, lies, 1, 10, -1);
            leaks(r, lies, 1, 10, -1, -1, -1, -1);
            leaks(r, lies, 1, 1, 9, 8);
            leaks(r, lies, 1, 1, 9, -1, -1, 8);
            leaks(r, lies, 1, 10, 8);
            leaks(r, lies, 1, 10, 8, -1, -1, -1);
            leaks(r, lies, 1, 19, 8, 9);
            leaks(r, lies, 1, 19, -1, 8, -1, 9);
            leaks(r, lies, 1, 55, 7, 8, 9);
            leaks(r, lies, 1, 217, 6, 7, 8, 9);
        }
        skin(r, 0, 6, 7, 8, 9);
        r.takes("law", "leak 1;off 0;", 2);
        r.makes("leaked 0", 1, 2377);
        r.takes("law", "leak 99;off 0;", 2);
        // 99 by 99 and 24
        r.makes("leaked 0", 33, 41);
        r.takes("law", "leak 50;thin 999;", 2);
        r.makes("leaked 0", 1, 25);
        r.anew("skin 0 0 0 1");
        r.takes("law", "leak 1;", 1);
        r.makes("leaked 0", 1, 100);
        r.takes("law", "leak 99;", 1);
        r.makes("leaked 0", 99, 100);
    }

    private static void leaks(Runs r, int lies, long upper, long lower, int... ages) {
        skin(r, lies, ages);
        r.makes("leaked 0", upper, lower);
    }

    private static void drip(Runs r) {
        r.about(18, "A DRIP is a LAYER more of a SKIN, inwards: its a; NONE, and nothing changes, if it has 4 of them.");
        r.does(EdgeTest.untaped());
        r.takes("law", "off 0;dirt 0 to 0;", 2);
        r.is("drip 3 3 9999 0 0 5", Checks.countFor(3));
        r.is("count 103", 3);
        r.is("span 3 2 false", 3);
        r.is("span 3 2 true", 3);
        r.is("drip 3 7 9999 0 0 5", Checks.countFor(7));
        r.is("span 3 3 true", 7);
        r.is("count 103", 4);
        r.still(NONE, "drip 3 7 9999 0 0 5", "drip 3 0 0 0 0 0", "drip 3 400 9999 9999 99 -1");
        r.is("count 103", 4);
        r.still(Runs.IAE, "drip 3 401 9999 0 0 5");

        r.about(18, "IllegalArgumentException: a number.");
        r.does(EdgeTest.rich());
        r.still(Runs.IAE, "drip 3 -1 0 0 0 0", "drip 3 401 0 0 0 0", "drip 3 0 -1 0 0 0", "drip 3 0 10000 0 0 0",
                "drip 3 0 0 -1 0 0", "drip 3 0 0 10000 0 0", "drip 3 0 0 0 -1 0", "drip 3 0 0 0 100 0",
                "drip 3 2147483647 0 0 0 0", "drip 3 0 0 0 -2147483648 0");
        r.still(Runs.NSE, "drip 5 401 0 0 0 0", "drip -1 0 -1 0 0 0");
        r.is("drip 3 0 0 0 0 -2147483648", 0);
        r.is("drip 3 400 9999 9999 99 2147483647", 9999);

        r.about(0, "A DRIP: AGE (0 to 400), b, d, a share (0 to 99), a DRAW: x (an int, a seed) becomes 1103515245 x + 12345; it is x >>> 16. g as in THE CLOCK from 10 d s on, grown AGE times; a is g by 1000, and e being a times off by 100: a less e, and DRAW mod (2 e + 1), 0 to 9999.");
        // 99 by off 50: e is 49, the DRAW mod 99
        // of 42627 the lower half of x is 0, of 47902 it is the greatest there is
        int[] seeds = {0, 1, -1, Integer.MAX_VALUE, Integer.MIN_VALUE, 2, 5, 42627, 47902};
        int[] draws = {0, 16838, 48697, 15929, 32768, 33676, 18655, 16213, 36998};
        for (int i = 0; i < seeds.length; i++) {
            if (i % 4 == 0) {
                r.anew("skin 0 0 0 1");
                r.takes("law", "off 50;", 1);
            }
            r.is("drip 0 0 0 100 99 " + seeds[i], 50 + draws[i] % 99);
        }
        r.anew("skin 0 0 0 1", "skin 0 0 0 1", "skin 0 0 0 1");
        r.takes("law", "off 50;", 1);
        // 9899 less 4949, and 6939, is 11889; with 3979 it is 8929, with nothing 4950
        r.is("drip 0 0 0 9999 99 1", 9999);
        r.is("drip 0 0 0 9999 99 2", 8929);
        r.is("drip 0 0 0 9999 99 0", 4950);
        // e is cut: of 1 it is 0
        r.is("drip 0 0 0 19 10 1", 1);
        r.takes("law", "", 0);
        // by off 5 e of 19 is 0, of 20 it is 1: 16838 mod 3 is 2
        r.is("drip 1 0 0 20 95 1", 19);
        r.is("drip 1 0 0 20 99 1", 19);
        r.is("drip 1 0 0 40 50 1", 21);
        r.is("drip 1 0 0 1 99 1", 0);
        r.takes("law", "rate 1;", 1);
        // of 600 by 1 each time: 999 after 399, 1000 after 400
        r.is("drip 2 399 2 60 1 1", 0);
        r.is("drip 2 400 2 60 1 1", 1);
        r.is("drip 2 0 9999 100 1 1", 1);
        r.is("drip 2 0 9999 99 1 1", 0);
    }

    private static void trial(Runs r) {
        r.about(19, "TRIAL. IllegalArgumentException: a number.");
        r.does(EdgeTest.rich());
        r.still(Runs.IAE, "trial -1 0 0 0 1", "trial 401 0 0 0 1", "trial 0 -1 0 0 1", "trial 0 10000 0 0 1",
                "trial 0 0 -1 0 1", "trial 0 0 10000 0 1", "trial 0 0 0 -1 1", "trial 0 0 0 100 1", "trial 0 0 0 0 0",
                "trial 0 0 0 0 101", "trial 0 0 0 0 -1", "trial 0 0 0 0 2147483647");
        r.still(0, "trial 0 0 0 0 1", "trial 400 0 0 0 100");
        r.still(98, "trial 400 9999 0 0 100");
        r.still(100, "trial 0 9999 0 99 100");
        r.still(1, "trial 0 9999 0 0 1");

        r.about(0, "TRIAL: with seeds 1 to n (1 to 100) how many DRIPS (counts a, b, d) have the AGE within their LEAST and GREATEST (THIN ones don't).");
        r.takes("law", "off 45;dirt 40 to 40;", 2);
        // of seeds 0 to 101 those of 0 and 101 are not within by a share of 46, that of 100 is not by 52
        r.is("trial 20 1000 100 46 1", 1);
        r.is("trial 20 1000 100 46 99", 91);
        r.is("trial 20 1000 100 46 100", 92);
        r.is("trial 20 1000 100 52 99", 90);
        r.is("trial 20 1000 100 52 100", 90);
        // THIN by b
        r.is("trial 0 49 0 0 9", 0);
        r.is("trial 0 50 0 0 9", 9);
        // dirt of a share of 1 is just what comes in the first time
        trialBy(r, "off 0;dirt 1 to 1;", 100);
        trialBy(r, "off 0;dirt 0 to 0;", 0);
        trialBy(r, "off 0;dirt 2 to 2;", 0);
        trialBy(r, "off 0;dirt 0 to 1;", 100);
        trialBy(r, "off 0;dirt 1 to 2;", 100);
        trialBy(r, "off 0;dirt 0 to 2;", 100);
        r.takes("law", "off 0;dirt 0 to 0;", 2);
        r.is("trial 0 9999 9999 1 7", 0);
        r.is("trial 0 9999 0 1 7", 7);
        r.is("trial 400 9999 9999 1 7", 7);
        r.takes("law", "off 0;dirt 2 to 2;", 2);
        r.is("trial 400 9999 9999 1 7", 0);
        r.is("trial 1 9999 9999 1 7", 0);
        r.is("trial 0 9999 9999 1 7", 7);
        trialOfDirt(r);
    }

    private static void trialOfDirt(Runs r) {
        // 10 are there at first, 10.4 after one time: both are a count of 10, whose LEAST and GREATEST are 0
        r.takes("law", "off 0;dirt 10 to 10;", 2);
        r.is("trial 0 50 100 10 9", 9);
        r.is("trial 1 50 100 10 9", 0);
        // by a share of 9 there are 9, 9.41, 9.815, 10.216: GREATEST is 3
        r.takes("law", "off 0;dirt 9 to 10;", 2);
        r.is("trial 1 50 100 10 9", 9);
    }

    private static void trialBy(Runs r, String law, int within) {
        r.takes("law", law, 2);
        r.is("trial 5 9999 9999 1 100", within);
    }
}
