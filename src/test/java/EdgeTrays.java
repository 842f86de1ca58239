import java.util.ArrayList;
import java.util.Arrays;
import java.util.List;

/** Promises 46 to 51, and the terms TRAYS, IMAGES. */
final class EdgeTrays {
    private static final int NONE = Runs.NONE;

    private EdgeTrays() {
    }

    static void run(Runs r) {
        tray(r);
        write(r);
        pour(r);
        image(r);
        restore(r);
        otherWalls(r);
        count(r);
    }

    private static void tray(Runs r) {
        r.about(46, "A TRAY is a row of so many 0s.");
        r.does(EdgeTest.tray(2, 2, 9, 9, 9, 9, 9, 9));
        r.does("skin 0 0 0 1", "skin 0 0 0 1", "tray 2 2 6");
        // counts of 0 are THIN by b, but by thin 0
        r.is("pour 0 2", 2);
        r.takes("law", "thin 0;", 1);
        for (String call : List.of("span 0 0 true", "span 0 1 true", "span 0 0 false", "span 0 1 false")) {
            r.is(call, 0);
        }
        r.does(EdgeTest.tray(2, 2, 9, 9, 9, 9, 9, 9));
        r.does("tray 2 2 3", "tray 2 2 6");
        r.is("pour 1 2", 2);
        r.is("span 1 1 true", 0);

        r.about(46, "NoSuchElementException: no such TRAY (as below); IllegalArgumentException: no such sort, or not so many.");
        r.does(EdgeTest.rich());
        r.still(Runs.NSE, "tray 4 0 5", "tray -1 0 5", "tray -2147483648 0 5", "tray 2147483647 0 5", "tray 4 9 99");
        r.still(Runs.NSE, "write 4 0 0", "write -1 0 0", "write -2147483648 0 0", "write 2147483647 99 0");
        r.still(Runs.NSE, "pour 0 4", "pour 0 -1", "pour 0 -2147483648", "pour 0 2147483647");
        r.still(Runs.IAE, "tray 0 -1 5", "tray 0 4 5", "tray 1 -2147483648 5", "tray 2 2147483647 5");
        r.still(Runs.IAE, "tray 0 0 -1", "tray 0 0 41", "tray 1 0 -2147483648", "tray 2 3 2147483647");

        r.about(0, "TRAYS 0 to 3 are MISSING at first, or rows of 0 to 40 numbers of 8 bits (sort 0), 16 (1), 32 (2), 64 (3).");
        for (int tray = 0; tray < 4; tray++) {
            r.anew();
            r.still(Runs.ISE, "write " + tray + " 0 0", "write " + tray + " -1 0", "weights true " + tray);
            r.does("tray " + tray + " " + tray + " 0");
            r.still(Runs.IOB, "write " + tray + " 0 0", "write " + tray + " -1 0");
            r.does("tray " + tray + " " + tray + " 1");
            r.is("write " + tray + " 0 7", 7);
            r.still(Runs.IOB, "write " + tray + " 1 0");
            r.does("tray " + tray + " " + tray + " 40");
            r.is("write " + tray + " 39 7", 7);
            r.still(Runs.IOB, "write " + tray + " 40 0");
            for (int other = 0; other < 4; other++) {
                if (other != tray) {
                    r.still(Runs.ISE, "write " + other + " 0 0");
                }
            }
        }
    }

    private static void write(Runs r) {
        r.about(47, "A number comes to a place of a TRAY, cut to its sort: as it is there.");
        r.does("tray 0 0 2", "tray 1 1 2", "tray 2 2 2", "tray 3 3 2");
        long[] edges = {128, 32768, 1L << 31};
        for (int sort = 0; sort < 3; sort++) {
            long e = edges[sort];
            String call = "write " + sort + " 1 ";
            r.is(call + (e - 1), e - 1);
            r.is(call + e, -e);
            r.is(call + -e, -e);
            r.is(call + (-e - 1), e - 1);
            r.is(call + (2 * e - 1), -1);
            r.is(call + 2 * e, 0);
            r.is(call + (2 * e + 5), 5);
            r.is(call + Long.MAX_VALUE, -1);
            r.is(call + Long.MIN_VALUE, 0);
        }
        r.is("write 3 1 " + Long.MAX_VALUE, Long.MAX_VALUE);
        r.is("write 3 1 " + Long.MIN_VALUE, Long.MIN_VALUE);
        r.is("write 3 1 4294967301", 4294967301L);
        // what is cut is what is there: 261 is 5 of 8 bits
        r.anew("paint 0 0 0", "told 0 50 50 50 50 50", "tray 0 0 5", "write 0 0 261", "write 0 4 256");
        r.is("weights false 0", true);
        r.makes("bent 0 0", 5, 6);
        // and is another one's place no matter
        r.does("write 0 1 7", "write 0 2 8", "write 0 3 9");
        r.is("weights false 0", true);
        r.makes("bent 0 0", 5, 6);
        r.does("fingers 0 24 50 50 50 50");
        r.makes("bent 0 0", 0, 1);
        r.does("fingers 0 19 50 50 50 50");
        r.makes("bent 0 0", 9, 10);

        r.about(47, "IllegalStateException: it is MISSING; IndexOutOfBoundsException: it has no such place.");
        r.does(EdgeTest.rich());
        r.still(Runs.ISE, "write 2 0 0", "write 2 -1 0", "write 2 40 0");
        r.still(Runs.IOB, "write 0 5 0", "write 0 -1 0", "write 1 6 0", "write 3 5 9", "write 0 -2147483648 0", "write 0 2147483647 0");
        r.is("write 0 0 9", 9);
        r.is("write 0 4 9", 9);
        r.still(Runs.NSE, "write 4 -1 0");
    }

    private static void pour(Runs r) {
        r.about(48, "The numbers of a TRAY, three by three (a, b, d), are LAYERS more of a SKIN: how many; NONE, and none comes, if there would be more than 4.");
        r.does(EdgeTest.rich());
        r.is("pour 3 1", 2);
        r.is("count 103", 4);
        r.still(NONE, "pour 3 1");
        r.is("pour 4 1", 2);
        r.is("pour 4 1", 2);
        r.still(NONE, "pour 4 1");
        r.is("pour 0 1", 2);
        r.is("count 100", 3);
        r.still(NONE, "pour 0 1");
        r.does(EdgeTest.tray(2, 3, 9999, 9999, 9999));
        r.is("pour 0 2", 1);
        r.is("count 100", 4);
        r.still(NONE, "pour 0 2");
        // an empty row is no LAYER, which a full SKIN has room for
        r.does("tray 2 0 0");
        r.still(0, "pour 0 2", "pour 2 2");
        r.does(EdgeTest.tray(2, 1, 0, 60, 0, 100, 1000, 100, 200, 1000, 0, 300, 1000, 0));
        r.is("pour 2 2", 4);
        // by off 4: 96 by a share of 60, 104 by one of 20
        r.is("span 2 0 true", 0);
        r.is("span 2 1 false", 4);
        r.is("span 2 1 true", 9);
        r.is("count 102", 4);
        r.does(EdgeTest.tray(2, 1, 0, 60, 0, 0, 60, 0, 0, 60, 0, 0, 60, 0, 0, 60, 0));
        r.does("skin 0 0 0 1");
        r.still(NONE, "pour 5 2");
        r.is("count 105", 0);

        r.about(48, "NoSuchElementException: the SKIN, the TRAY; IllegalStateException: it is MISSING; IndexOutOfBoundsException: it ends within a LAYER; IllegalArgumentException: a count.");
        r.does(EdgeTest.rich());
        r.still(Runs.NSE, "pour 5 1", "pour -1 1", "pour 5 2", "pour 5 4", "pour 0 4", "pour 0 -1");
        r.still(Runs.ISE, "pour 0 2", "pour 3 2");
        // of 5 numbers, one of which is no count
        r.does("write 3 0 -1");
        r.still(Runs.IOB, "pour 0 3", "pour 3 3");
        for (int many : new int[] {1, 2, 4, 5, 7, 38, 40}) {
            r.does("tray 2 1 " + many);
            r.still(Runs.IOB, "pour 2 2");
        }
        r.does("tray 2 1 39");
        r.still(NONE, "pour 2 2");
        r.does("write 2 38 -1");
        r.still(Runs.IAE, "pour 2 2");
        for (int place = 0; place < 6; place++) {
            r.anew(EdgeTest.rich());
            r.does("write 1 " + place + " 10000");
            r.still(Runs.IAE, "pour 2 1");
            r.does("write 1 " + place + " -1");
            r.still(Runs.IAE, "pour 2 1");
            r.does("write 1 " + place + " 9999");
            r.is("pour 2 1", 2);
            r.does("write 1 " + place + " 0");
            r.is("pour 2 1", 2);
            r.does("write 1 " + place + " 10000");
            r.still(Runs.IAE, "pour 2 1");
        }
        r.anew("skin 0 0 0 1");
        r.does(EdgeTest.tray(0, 3, 5, 60, 4294967296L));
        r.still(Runs.IAE, "pour 0 0");
    }

    /** Calls each of which changes something that an IMAGE holds, on the rich wall. */
    private static List<List<String>> changes() {
        List<List<String>> all = new ArrayList<>();
        for (String call : List.of("paint 0 0 0", "paint 3 4 9", "fingers 0 50 20 55 55 54", "fingers 4 1 0 0 0 0", "over 3 4",
                "over 0 2", "skin 0 0 0 1", "skin 1 1 3 2", "layer 0 400 1000 10", "layer 2 5 1000 0", "layer 3 1 1 1",
                "drip 4 9 1000 0 0 1", "told 3 1 1 1 1 1", "told 0 50 52 55 55 55", "weights true 0", "pour 4 1", "pour 0 1",
                "restore 0", "restore 1")) {
            all.add(List.of(call));
        }
        all.add(List.of("write 0 4 77", "weights false 0"));
        for (String law : List.of("", "near 7;", "off 4;near 7;rate 11;", "off 4;near 7;dirt 20 to 61;", "off 4;near 7;dirt 19 to 60;",
                "off 4;near 7;thin 51;", "off 4;near 8;", "off 5;near 7;", "off 4;near 7;leak 11;", "off 4;near 7;near 7;")) {
            all.add(read("law", law));
        }
        for (String text : List.of("", "beast 3 in 1 to 90;", "beast 3 in 1 to 90;people 1 in 1 to 40;", "people 0 in 1 to 40;beast 3 in 1 to 90;beast 3 in 1 to 91;",
                "beast 3 in 1 to 89;people 0 in 1 to 40;", "beast 3 in 1 to 90;people 0 in 2 to 40;")) {
            all.add(read("stories", text));
        }
        for (String text : List.of("", "scrape under;", "scrape under;scrape over if cave 0;", "scrape over;scrape over if cave 1;", "scrape under;scrape over if not cave 1;",
                "scrape under if sign;scrape over if cave 1;scrape over;")) {
            all.add(read("scrapers", text));
        }
        return all;
    }

    private static List<String> read(String how, String text) {
        // the tape of the rich wall is emptied first
        List<String> s = new ArrayList<>(List.of(how + " 0"));
        s.addAll(Runs.fed(text));
        s.add(how + " " + text.length());
        return s;
    }

    private static List<String> joined(List<String> some, List<String> more, String... last) {
        List<String> all = new ArrayList<>(some);
        all.addAll(more);
        all.addAll(Arrays.asList(last));
        return all;
    }

    private static void image(Runs r) {
        r.about(49, "An IMAGE is made. NoSuchElementException: no such one.");
        r.does(EdgeTest.rich());
        r.still(Runs.NSE, "image -1", "image 3", "image -2147483648", "image 2147483647");
        List<String> rich = r.told();
        for (int i = 0; i < 3; i++) {
            r.alike("image " + i, rich, joined(rich, List.of("image " + i)), true);
            // made anew, it is another one
            r.alike("image " + i + " anew", joined(rich, List.of("paint 0 0 0")),
                    joined(rich, List.of("image " + i, "paint 0 0 0", "image " + i, "paint 0 0 0", "restore " + i)), true);
        }
        r.is("upper", 19);
        r.does("image 0", "image 2");
        r.is("upper", 19);
        r.is("fault 0", 3);
        r.is("fault 1", 5);
        r.is("count 6", 20);
        // 0 to 2 are three: each its own
        r.anew("image 0", "paint 0 0 0", "image 1", "paint 0 0 0", "image 2", "paint 0 0 0");
        for (int i : new int[] {2, 0, 1, 2, 1, 0}) {
            r.does("restore " + i);
            r.is("count 0", i);
        }
    }

    private static void restore(Runs r) {
        r.about(50, "All is as in an IMAGE. NoSuchElementException: no such one; IllegalStateException: none was made.");
        r.does(EdgeTest.rich());
        r.still(Runs.NSE, "restore -1", "restore 3", "restore -2147483648", "restore 2147483647");
        r.still(Runs.ISE, "restore 2");
        List<String> rich = r.told();
        for (List<String> change : changes()) {
            List<String> changed = joined(joined(rich, List.of("image 2")), change);
            String last = change.get(change.size() - 1);
            r.alike(last + " changes the wall", rich, changed, false);
            r.alike(last + ", then back", rich, joined(changed, List.of("restore 2")), true);
            r.alike(last + ", an IMAGE of it, and back and forth", joined(rich, change),
                    joined(changed, List.of("image 1", "restore 2", "restore 1")), true);
            r.alike(last + ", twice back", rich, joined(joined(changed, List.of("restore 2")), change, "restore 2"), true);
        }
        // what comes behind goes on from the IMAGE
        r.alike("a PAINT and a SKIN after it", joined(rich, List.of("paint 0 0 1", "skin 0 1 7 3", "told 0 9 9 9 9 9")),
                joined(rich, List.of("image 2", "paint 0 0 0", "fingers 7 9 9 9 9 9", "over 7 0", "skin 0 2 7 5", "layer 5 100 1000 0", "told 3 1 2 3 4 5",
                        "restore 2", "paint 0 0 1", "skin 0 1 7 3", "told 0 9 9 9 9 9")), true);

        r.about(0, "IMAGES 0 to 2: all but the tape, the FAULT, the FRACTION and TRAYS, as it was (none at first).");
        r.still(Runs.ISE, "restore 0", "restore 1", "restore 2");
        r.does("image 1");
        r.still(Runs.ISE, "restore 0", "restore 2");
        r.does("paint 0 0 0", "told 0 50 50 50 50 50");
        r.refuses("law", "rate 5;!", 1, 7);
        r.does("many 2", "feed 1 2 3 4 5");
        r.does(EdgeTest.tray(0, 0, 4, 4, 4, 4, 4));
        r.does("restore 1");
        r.is("count 0", 0);
        r.is("count 6", 20);
        r.is("fault 0", 1);
        r.is("fault 1", 7);
        r.is("upper", 19);
        r.is("lower", 100);
        r.does("paint 0 0 0", "told 0 50 50 50 50 50");
        r.is("weights false 0", true);
        r.makes("bent 0 0", 4, 5);
        r.does("restore 1", "paint 0 0 0", "told 0 50 50 50 50 50");
        r.makes("bent 0 0", 1, 2);
        r.is("count 6", 20);
        // an IMAGE that was made stays one, whatever is restored
        r.does("image 0", "restore 1", "image 2", "restore 0");
        r.is("count 0", 1);
        r.does("restore 2");
        r.is("count 0", 0);
    }

    private static List<String> one() {
        List<String> s = new ArrayList<>(List.of("paint 0 0 0", "paint 2 0 3", "paint 3 0 4", "fingers 0 50 20 55 55 55", "over 1 0", "over 2 1",
                "told 0 50 52 55 55 55", "told 1 50 52 55 56 57", "skin 0 1 1 5", "skin 0 2 0 6", "skin 0 2 2 7", "layer 0 300 1000 10",
                "skin 0 2 0 8", "layer 3 700 1000 10"));
        s.addAll(read("stories", "beast 3 in 1 to 50;people 0 in 1 to 9;people 1 in 40 to 50;"));
        s.addAll(read("scrapers", "scrape under if cave 0;"));
        EdgeTest.tray(s, 0, 0, 9, 9, 9, 9, 9);
        s.add("weights false 0");
        EdgeTest.tray(s, 0, 0, 2, 2, 2, 2, 2);
        s.add("weights true 0");
        return s;
    }

    private static List<String> another() {
        List<String> s = new ArrayList<>(List.of("paint 0 5 1", "paint 1 5 2", "paint 1 5 9", "fingers 0 30 30 30 10 30", "over 0 1", "over 1 2",
                "told 3 30 30 30 31 30", "told 2 30 34 30 31 30", "skin 5 2 2 15", "skin 5 1 1 16", "skin 5 0 0 17", "layer 0 200 800 20",
                "skin 5 1 2 18", "layer 3 100 900 30"));
        s.addAll(read("law", "off 1;near 9;rate 12;dirt 5 to 6;thin 3;leak 7;"));
        s.addAll(read("stories", "people 5 in 3 to 7;"));
        s.addAll(read("scrapers", "scrape over if cheap 16 and disc;scrape beside if cave 5;"));
        EdgeTest.tray(s, 0, 0, 1, 2, 3, 4, 5);
        s.add("weights false 0");
        EdgeTest.tray(s, 0, 0, 9, 8, 7, 6, 5);
        s.add("weights true 0");
        return s;
    }

    /** Two walls of which nothing is alike: the rows of one are written over those of the other. */
    private static void otherWalls(Runs r) {
        r.about(50, "All is as in an IMAGE.");
        List<String> both = new ArrayList<>(List.of("image 0"));
        both.addAll(one());
        both.addAll(List.of("image 1", "restore 0"));
        both.addAll(another());
        both.add("image 2");
        r.alike("they differ", one(), another(), false);
        r.alike("the other", another(), both, true);
        r.alike("the one", one(), joined(both, List.of("restore 1")), true);
        r.alike("the one and the other", another(), joined(both, List.of("restore 1", "restore 2")), true);
        r.alike("a bare wall", List.of(), joined(both, List.of("restore 0")), true);
        // by another law LAYERS are of other ages, those that came back too
        List<String> law = read("law", "rate 1;dirt 1 to 90;");
        r.alike("the one by another law", joined(one(), law), joined(joined(both, List.of("restore 1")), law), true);
        r.alike("the other by another law", joined(another(), law), joined(joined(both, List.of("restore 1", "restore 2")), law), true);
    }

    private static void count(Runs r) {
        r.about(51, "0 PAINTS, 1 SKINS, 2 of ORDER, 3 TOLD HANDS, 4 LINES of THE LAW, 5 of STORIES, 6 bytes on the tape, 7 rate, 8 and 9 dirt, 10 thin, 11 off, 12 leak, 13 near, 14 RULES of SCRAPERS; 100 and a SKIN: its LAYERS; NONE for others.");
        r.does(EdgeTest.rich());
        int[] all = {7, 5, 2, 3, 2, 2, 20, 10, 20, 60, 50, 4, 10, 7, 2};
        for (int i = 0; i < all.length; i++) {
            r.still(all[i], "count " + i);
        }
        int[] layers = {1, 1, 0, 2, 0};
        for (int i = 0; i < layers.length; i++) {
            r.still(layers[i], "count " + (100 + i));
        }
        r.still(NONE, "count -1", "count 15", "count 16", "count 99", "count 105", "count 129", "count 130", "count 131",
                "count -2147483648", "count 2147483647");
        r.anew(EdgeTest.times(30, "skin 0 0 0 1"));
        r.does("layer 29 1 1 1");
        r.is("count 129", 1);
        r.is("count 128", 0);
        r.is("count 130", NONE);
        r.is("count 99", NONE);
    }
}
