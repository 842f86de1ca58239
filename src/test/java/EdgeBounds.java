import java.util.List;

/** Promises 20 to 28, and the terms BOUNDS, CLASH, RING, RESTS, OLDER, MANY, FRACTIONS. */
final class EdgeBounds {
    private static final int NONE = Runs.NONE;
    private static final int OVER = 1;
    private static final int UNDER = 2;

    private EdgeBounds() {
    }

    static void run(Runs r) {
        bound(r);
        clash(r);
        ring(r);
        rests(r);
        older(r);
        many(r);
        fractions(r);
    }

    /** So many discs of one CAVE, by the law "off 0;". */
    private static void discs(Runs r, int many) {
        r.anew(EdgeTest.times(many, "paint 1 0 0"));
        r.does(Runs.fed("off 0;").get(0), "law 6");
    }

    /** A SKIN more, the k-th, that lies so on a PAINT and is so old. */
    private static void aged(Runs r, int k, int lies, int paint, int age) {
        r.is("skin 0 " + lies + " " + paint + " 1", k);
        r.does(EdgeTest.layer(k, age));
    }

    private static void bounds(Runs r, int paint, int least, int most) {
        r.is("bound " + paint + " false", least);
        r.is("bound " + paint + " true", most);
    }

    private static void bound(Runs r) {
        r.about(20, "LEAST of a PAINT, or MOST.");
        discs(r, 1);
        r.still(0, "bound 0 false");
        r.still(400, "bound 0 true");
        aged(r, 0, OVER, 0, 7);
        aged(r, 1, UNDER, 0, 9);
        r.still(7, "bound 0 false");
        r.still(9, "bound 0 true");

        r.about(0, "LEAST is the greatest of 0, what its SKINS OVER it SAY, and LEAST of all PAINTS that lie over it; MOST the least of 400, what SKINS UNDER it SAY, and MOST of all PAINTS over which it lies (on and on, in RINGS, too).");
        discs(r, 1);
        aged(r, 0, OVER, 0, 0);
        aged(r, 1, UNDER, 0, 400);
        bounds(r, 0, 0, 400);
        aged(r, 2, OVER, 0, 1);
        aged(r, 3, UNDER, 0, 399);
        bounds(r, 0, 1, 399);
        aged(r, 4, UNDER, 0, 0);
        aged(r, 5, OVER, 0, 400);
        bounds(r, 0, 400, 0);
        // SKINS that SAY nothing bound nothing
        discs(r, 1);
        r.does("skin 0 1 0 1", "skin 0 2 0 1", "skin 0 0 0 1", "layer 0 9000 49 0", "layer 1 1 49 0", EdgeTest.layer(2, 9));
        bounds(r, 0, 0, 400);
        r.does(EdgeTest.layer(0, 9), EdgeTest.layer(1, 50));
        bounds(r, 0, 9, 50);
        r.does(EdgeTest.layer(0, 8), EdgeTest.layer(1, 49));
        bounds(r, 0, 0, 400);
        // up and down a long row of PAINTS, and not the other way
        discs(r, 30);
        for (int i = 0; i < 29; i++) {
            r.is("over " + i + " " + (i + 1), true);
        }
        aged(r, 0, OVER, 0, 12);
        aged(r, 1, UNDER, 29, 40);
        for (int i = 0; i < 30; i++) {
            bounds(r, i, 12, 40);
        }
        aged(r, 2, OVER, 15, 13);
        aged(r, 3, UNDER, 15, 39);
        bounds(r, 14, 12, 39);
        bounds(r, 15, 13, 39);
        bounds(r, 16, 13, 40);
        bounds(r, 0, 12, 39);
        bounds(r, 29, 13, 40);
        // in a RING of all
        r.is("over 29 0", true);
        for (int i = 0; i < 30; i++) {
            bounds(r, i, 13, 39);
        }
        // of thirty SKINS the last ones
        discs(r, 1);
        r.does(EdgeTest.times(28, "skin 0 0 0 1"));
        r.is("skin 0 1 0 1", 28);
        r.is("skin 0 2 0 1", 29);
        bounds(r, 0, 0, 400);
        r.does(EdgeTest.layer(28, 30), EdgeTest.layer(29, 90));
        bounds(r, 0, 30, 90);
        r.is("rests 0", 2);
        r.makes("older 0 30", 9, 10);
        r.makes("older 0 31", 0, 1);
        // the numbers go the other way along the wall
        discs(r, 30);
        for (int i = 0; i < 29; i++) {
            r.is("over " + (i + 1) + " " + i, true);
        }
        aged(r, 0, OVER, 29, 12);
        aged(r, 1, UNDER, 0, 40);
        for (int i = 0; i < 30; i++) {
            bounds(r, i, 12, 40);
        }
    }

    private static void clash(Runs r) {
        r.about(0, "CLASH: LEAST is above MOST.");
        discs(r, 1);
        aged(r, 0, OVER, 0, 50);
        aged(r, 1, UNDER, 0, 51);
        r.is("clash -1", 0);
        aged(r, 2, UNDER, 0, 50);
        r.is("clash -1", 0);
        r.is("clash 0", NONE);
        aged(r, 3, UNDER, 0, 49);
        r.is("clash -1", 1);
        r.is("clash 0", 0);

        r.about(21, "How many PAINTS CLASH (i NONE), or the i-th; NONE: not so many.");
        discs(r, 30);
        r.still(0, "clash -1");
        r.still(NONE, "clash 0", "clash 1", "clash -2", "clash 29", "clash 30");
        int[] clashing = {0, 3, 28, 29};
        for (int i = 0; i < clashing.length; i++) {
            aged(r, 2 * i, OVER, clashing[i], 20);
            aged(r, 2 * i + 1, UNDER, clashing[i], 19);
        }
        r.still(4, "clash -1");
        for (int i = 0; i < clashing.length; i++) {
            r.is("clash " + i, clashing[i]);
        }
        r.still(NONE, "clash 4", "clash 5", "clash 30", "clash -2", "clash -2147483648", "clash 2147483647");
        // all thirty
        for (int i = 0; i < 29; i++) {
            r.does("over " + i + " " + (i + 1));
        }
        r.is("clash -1", 30);
        r.is("clash 29", 29);
        r.is("clash 30", NONE);
    }

    private static void ring(Runs r) {
        r.about(22, "Whether a PAINT is in a RING.");
        discs(r, 1);
        r.still(false, "ring 0");

        r.about(0, "RING: it lies over PAINTS that lie over .. that lie over it.");
        discs(r, 5);
        r.does("over 0 1", "over 1 2", "over 2 3");
        for (int i = 0; i < 5; i++) {
            r.is("ring " + i, false);
        }
        r.does("over 3 1", "over 3 4");
        r.is("ring 0", false);
        r.is("ring 1", true);
        r.is("ring 2", true);
        r.is("ring 3", true);
        r.is("ring 4", false);
        // two would be the least RING, but each two are told once: it is of three or more
        discs(r, 3);
        r.does("over 0 1");
        r.is("over 1 0", false);
        r.is("ring 0", false);
        r.does("over 1 2", "over 2 0");
        r.is("ring 0", true);
        discs(r, 30);
        for (int i = 0; i < 29; i++) {
            r.does("over " + i + " " + (i + 1));
        }
        r.is("ring 0", false);
        r.is("ring 29", false);
        r.does("over 29 0");
        r.is("ring 0", true);
        r.is("ring 29", true);

        r.about(23, "Whether one PAINT lies over another one, on and on.");
        discs(r, 30);
        for (int i = 0; i < 29; i++) {
            r.does("over " + i + " " + (i + 1));
        }
        r.is("above 0 1", true);
        r.is("above 0 29", true);
        r.is("above 28 29", true);
        r.is("above 29 28", false);
        r.is("above 29 0", false);
        r.is("above 7 7", false);
        r.is("above 0 0", false);
        r.does("over 29 27");
        r.is("above 29 28", true);
        r.is("above 29 29", true);
        r.is("above 29 26", false);
        r.is("above 26 26", false);
        r.anew(EdgeTest.rich());
        r.still(true, "above 2 0", "above 1 0");
        r.still(false, "above 0 2", "above 3 4", "above 3 0");
        r.still(Runs.NSE, "above 7 0", "above 0 7", "above -1 7", "above 7 7");
    }

    private static void rests(Runs r) {
        r.about(24, "RESTS.");
        discs(r, 2);
        r.still(0, "rests 0");
        aged(r, 0, OVER, 0, 7);
        r.still(1, "rests 0");
        r.still(0, "rests 1");

        r.about(0, "RESTS: how many SKINS there are without which (each alone) its LEAST or MOST would be another one.");
        discs(r, 3);
        r.does("over 0 1", "over 1 2");
        aged(r, 0, OVER, 0, 20);
        r.is("rests 1", 1);
        // of like ones each can be missed
        aged(r, 1, OVER, 1, 20);
        r.is("rests 1", 0);
        r.is("rests 0", 1);
        aged(r, 2, OVER, 1, 21);
        r.is("rests 1", 1);
        aged(r, 3, UNDER, 2, 90);
        r.is("rests 1", 2);
        r.is("rests 0", 2);
        aged(r, 4, UNDER, 1, 90);
        r.is("rests 1", 1);
        r.is("rests 2", 2);
        aged(r, 5, UNDER, 1, 89);
        r.is("rests 1", 2);
        r.is("rests 0", 2);
        // those that SAY what holds without them, too
        discs(r, 1);
        aged(r, 0, OVER, 0, 0);
        aged(r, 1, UNDER, 0, 400);
        r.is("rests 0", 0);
        aged(r, 2, OVER, 0, 1);
        r.is("rests 0", 1);
        aged(r, 3, UNDER, 0, 399);
        r.is("rests 0", 2);
        // in a RING
        discs(r, 3);
        r.does("over 0 1", "over 1 2", "over 2 0");
        aged(r, 0, OVER, 1, 5);
        aged(r, 1, UNDER, 1, 9);
        r.is("rests 0", 2);
        r.is("rests 2", 2);
    }

    private static void older(Runs r) {
        r.about(25, "OLDER is the FRACTION. IllegalArgumentException: t.");
        r.does(EdgeTest.rich());
        r.still(Runs.IAE, "older 0 0", "older 0 401", "older 0 -1", "older 0 -2147483648", "older 0 2147483647");
        r.still(Runs.NSE, "older 7 0", "older -1 401");
        r.makes("older 0 1", 9, 10);
        r.makes("older 0 400", 0, 1);

        r.about(0, "OLDER than t (1 to 400): of the SKINS OVER it, or OVER a PAINT that lies over it (on and on), that SAY t or more, the five that SAY most (of like ones the least numbers): 1 less all their LEAKED by one another; 0 without any.");
        discs(r, 3);
        r.makes("older 0 1", 0, 1);
        r.does("over 0 1", "over 1 2");
        aged(r, 0, OVER, 1, 20);
        r.makes("older 1 20", 9, 10);
        r.makes("older 1 19", 9, 10);
        r.makes("older 1 21", 0, 1);
        r.makes("older 2 20", 9, 10);
        r.makes("older 0 1", 0, 1);
        aged(r, 1, UNDER, 1, 20);
        aged(r, 2, OVER, 2, 20);
        r.makes("older 1 20", 9, 10);
        r.makes("older 2 20", 99, 100);
        aged(r, 3, OVER, 0, 400);
        r.makes("older 2 400", 9, 10);
        r.makes("older 2 1", 999, 1000);
        // what SAYS 0 is not t or more
        discs(r, 1);
        aged(r, 0, OVER, 0, 0);
        r.makes("older 0 1", 0, 1);
        aged(r, 1, OVER, 0, 1);
        r.makes("older 0 1", 9, 10);
        five(r);
        // once each in a RING
        discs(r, 3);
        r.does("over 0 1", "over 1 2", "over 2 0");
        aged(r, 0, OVER, 0, 20);
        r.makes("older 0 20", 9, 10);
        r.makes("older 1 20", 9, 10);
        // the greatest numbers: 2377 five times by itself
        discs(r, 1);
        r.takes("law", "off 0;leak 1;", 2);
        for (int k = 0; k < 6; k++) {
            r.does("skin 0 1 0 1", EdgeTest.layer(k, 5), EdgeTest.layer(k, 6), EdgeTest.layer(k, 7), EdgeTest.layer(k, 8));
        }
        long all = 2377L * 2377 * 2377 * 2377 * 2377;
        r.makes("older 0 8", all - 1, all);
    }

    private static void five(Runs r) {
        discs(r, 1);
        for (int k = 0; k < 4; k++) {
            aged(r, k, OVER, 0, 50 + k);
        }
        r.makes("older 0 50", 9999, 10000);
        aged(r, 4, OVER, 0, 30);
        r.makes("older 0 30", 99999, 100000);
        aged(r, 5, OVER, 0, 29);
        r.makes("older 0 29", 99999, 100000);
        // a SKIN of two LAYERS: 1 by 19. It is the least: not of the five
        r.does("skin 0 1 0 1", EdgeTest.layer(6, 1), EdgeTest.layer(6, 28));
        r.makes("older 0 28", 99999, 100000);
        // as old as the fifth, but of a higher number
        r.does("skin 0 1 0 1", EdgeTest.layer(7, 1), EdgeTest.layer(7, 30));
        r.makes("older 0 28", 99999, 100000);
        // it SAYS more than the fifth
        r.does("skin 0 1 0 1", EdgeTest.layer(8, 1), EdgeTest.layer(8, 31));
        r.makes("older 0 28", 189999, 190000);
        // of like ones the one of the least number is of the five
        discs(r, 1);
        r.does("skin 0 1 0 1", EdgeTest.layer(0, 1), EdgeTest.layer(0, 30));
        for (int k = 1; k < 6; k++) {
            aged(r, k, OVER, 0, 30);
        }
        r.makes("older 0 30", 189999, 190000);
    }

    private static void many(Runs r) {
        r.about(26, "MANY is the FRACTION. IllegalArgumentException: n.");
        r.does(EdgeTest.rich());
        r.still(Runs.IAE, "many 0", "many 10", "many -1", "many -2147483648", "many 2147483647");
        r.makes("many 1", 1, 10);
        r.makes("many 9", 612579511, 1000000000);

        r.about(0, "MANY of n (1 to 9): 1 less ((100 less leak) by 100) n times by itself.");
        r.makes("many 2", 19, 100);
        r.takes("law", "leak 99;", 1);
        r.makes("many 1", 99, 100);
        r.makes("many 9", 999999999999999999L, 1000000000000000000L);
        r.takes("law", "leak 1;", 1);
        r.makes("many 1", 1, 100);
        r.makes("many 9", 1000000000000000000L - 913517247483640899L, 1000000000000000000L);
        r.takes("law", "leak 50;", 1);
        r.makes("many 9", 511, 512);
    }

    private static void fractions(Runs r) {
        r.about(0, "FRACTIONS by least numbers, the lower above 0 (upper 0: 0 over 1; without one: 0 over 0).");
        r.takes("law", "leak 20;", 1);
        r.makes("many 1", 1, 5);
        r.does("paint 0 0 0");
        r.makes("older 0 1", 0, 1);
        r.makes("whose 0 0", 0, 0);

        r.about(27, "The upper number of the latest FRACTION; 0 without any.");
        r.still(0, "upper");
        r.does("paint 0 0 0", "many 2");
        r.still(19, "upper");
        for (String call : List.of("whose 0 0", "ringed 0 0", "bent 0 0", "who 0 0")) {
            r.makes("many 2", 19, 100);
            r.makes(call, 0, 0);
            r.still(0, "upper", "lower");
        }

        r.about(28, "Its lower number; 0 without any.");
        r.still(0, "lower");
        r.does("many 2");
        r.still(100, "lower");
        r.does("paint 0 0 0", "older 0 1");
        r.still(1, "lower");
    }
}
