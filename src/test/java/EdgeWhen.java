import java.util.ArrayList;
import java.util.Arrays;
import java.util.List;

/** Promises 37 to 45, and the terms TIMES, WHO, ALONE, SPREAD, FIRST, PLAN, FOLLOWED, SAY. */
final class EdgeWhen {
    private static final int NONE = Runs.NONE;
    private static final int OVER = 1;
    private static final int UNDER = 2;

    private EdgeWhen() {
    }

    static void run(Runs r) {
        times(r);
        who(r);
        alone(r);
        spread(r);
        first(r);
        plan(r);
        planOfLikeOnes(r);
        follow(r);
        facts(r);
        behind(r);
        say(r);
        throwsInTurn(r);
    }

    /** These PAINTS, by the law "off 0;". */
    private static void wall(Runs r, String... paints) {
        r.anew(paints);
        r.does(Runs.fed("off 0;").get(0), "law 6");
    }

    /** The k-th SKIN, which lies so on a PAINT of CAVE 0 and is so old. */
    private static void aged(Runs r, int k, int lies, int paint, int age) {
        r.is("skin 0 " + lies + " " + paint + " 1", k);
        r.does(EdgeTest.layer(k, age));
    }

    private static void stories(Runs r, String text) {
        r.does(Runs.fed(text).toArray(new String[0]));
        r.does("stories " + text.length());
    }

    private static void timesOf(Runs r, int paint, int many, int least, int greatest) {
        r.is("times " + paint + " 0", many);
        r.is("times " + paint + " 1", least);
        r.is("times " + paint + " 2", greatest);
    }

    private static void times(Runs r) {
        r.about(37, "How many TIMES a PAINT has (what 0), the least (1), the greatest (2; NONE without any). IllegalArgumentException: another what.");
        r.does(EdgeTest.rich());
        r.still(Runs.IAE, "times 0 -1", "times 0 3", "times 0 -2147483648", "times 0 2147483647");
        r.still(401, "times 3 0");
        r.still(0, "times 3 1");
        r.still(400, "times 3 2");
        wall(r, "paint 2 0 0");
        timesOf(r, 0, 0, NONE, NONE);

        r.about(0, "TIMES of a PAINT: thousands of years ago t within LEAST and MOST, of a beast only those in which it lived by STORIES.");
        wall(r, "paint 1 0 3", "paint 2 0 3");
        timesOf(r, 0, 401, 0, 400);
        timesOf(r, 1, 0, NONE, NONE);
        stories(r, "beast 3 in 0 to 0;beast 3 in 9 to 10;beast 3 in 10 to 11;beast 3 in 400 to 400;beast 2 in 0 to 400;people 3 in 0 to 400;");
        timesOf(r, 0, 401, 0, 400);
        timesOf(r, 1, 5, 0, 400);
        aged(r, 0, OVER, 1, 1);
        aged(r, 1, UNDER, 1, 399);
        timesOf(r, 1, 3, 9, 11);
        aged(r, 2, OVER, 1, 9);
        aged(r, 3, UNDER, 1, 11);
        timesOf(r, 1, 3, 9, 11);
        aged(r, 4, OVER, 1, 10);
        aged(r, 5, UNDER, 1, 10);
        timesOf(r, 1, 1, 10, 10);
        aged(r, 6, OVER, 1, 11);
        timesOf(r, 1, 0, NONE, NONE);
        aged(r, 7, OVER, 0, 50);
        aged(r, 8, UNDER, 0, 50);
        timesOf(r, 0, 1, 50, 50);
        aged(r, 9, UNDER, 0, 49);
        timesOf(r, 0, 0, NONE, NONE);
        // a hand, a disc and a sign of that WHAT have them all
        wall(r, "paint 0 0 3", "paint 1 0 3", "paint 3 0 3");
        stories(r, "beast 3 in 5 to 6;");
        timesOf(r, 0, 401, 0, 400);
        timesOf(r, 1, 401, 0, 400);
        timesOf(r, 2, 401, 0, 400);
    }

    private static void who(Runs r) {
        r.about(38, "WHO is the FRACTION: true; 0 over 0: false. IllegalArgumentException: no such people.");
        r.does(EdgeTest.rich());
        r.still(Runs.IAE, "who 0 -1", "who 0 6", "who 0 -2147483648", "who 0 2147483647");
        r.makes("who 3 0", 1, 1);
        r.makes("who 3 5", 0, 1);
        r.takes("stories", "", 0);
        r.makes("who 3 0", 0, 0);

        r.about(0, "WHO of a PAINT and a people: of TIMES those in which it was there, by all such of all peoples together: a FRACTION; 0 over 0 without.");
        wall(r, "paint 1 0 0", "paint 2 0 1");
        stories(r, "people 0 in 10 to 15;people 0 in 15 to 17;people 5 in 15 to 16;people 2 in 400 to 400;beast 1 in 15 to 15;");
        // 8 of 0, 2 of 5, 1 of 2
        r.makes("who 0 0", 8, 11);
        r.makes("who 0 5", 2, 11);
        r.makes("who 0 2", 1, 11);
        r.makes("who 0 1", 0, 1);
        r.makes("who 1 0", 1, 2);
        r.makes("who 1 5", 1, 2);
        aged(r, 0, OVER, 0, 17);
        r.makes("who 0 0", 1, 2);
        aged(r, 1, OVER, 0, 18);
        r.makes("who 0 0", 0, 1);
        r.makes("who 0 2", 1, 1);
        aged(r, 2, UNDER, 0, 399);
        r.makes("who 0 2", 0, 0);
        wall(r, "paint 1 0 0");
        stories(r, "people 0 in 10 to 15;people 5 in 0 to 0;");
        aged(r, 0, UNDER, 0, 10);
        r.makes("who 0 0", 1, 2);
        aged(r, 1, UNDER, 0, 9);
        r.makes("who 0 0", 0, 1);
        r.makes("who 0 5", 1, 1);
    }

    private static void alone(Runs r) {
        r.about(39, "ALONE. IllegalArgumentException: no such people.");
        r.does(EdgeTest.rich());
        r.still(Runs.IAE, "alone 0 -1", "alone 0 6", "alone 0 -2147483648", "alone 0 2147483647");
        r.still(40, "alone 3 0");
        r.still(0, "alone 3 5");

        r.about(0, "ALONE: how many of TIMES in which it is the only people.");
        wall(r, "paint 1 0 0", "paint 2 0 1");
        stories(r, "people 0 in 10 to 15;people 0 in 14 to 17;people 5 in 17 to 18;people 1 in 400 to 400;beast 1 in 16 to 17;");
        r.is("alone 0 0", 7);
        r.is("alone 0 5", 1);
        r.is("alone 0 1", 1);
        r.is("alone 0 2", 0);
        r.is("alone 1 0", 1);
        r.is("alone 1 5", 0);
        aged(r, 0, OVER, 0, 16);
        r.is("alone 0 0", 1);
        aged(r, 1, OVER, 0, 17);
        r.is("alone 0 0", 0);
        aged(r, 2, UNDER, 0, 18);
        r.is("alone 0 5", 1);
        aged(r, 3, UNDER, 0, 17);
        r.is("alone 0 5", 0);
    }

    private static void spread(Runs r) {
        r.about(40, "SPREAD of a WHAT (0 to 9). IllegalArgumentException: another WHAT.");
        r.does(EdgeTest.rich());
        r.still(Runs.IAE, "spread -1", "spread 10", "spread -2147483648", "spread 2147483647");
        r.still(0, "spread 0");
        r.still(1, "spread 9");
        r.still(2, "spread 4");

        r.about(0, "SPREAD of a sign's WHAT: in how many CAVES there are such signs.");
        wall(r, "paint 0 0 7", "paint 1 1 7", "paint 2 2 7");
        r.is("spread 7", 0);
        r.does("paint 3 3 7");
        r.is("spread 7", 1);
        r.does("paint 3 3 7", "paint 3 4 6");
        r.is("spread 7", 1);
        for (int cave = 0; cave < 6; cave++) {
            r.does("paint 3 " + cave + " 7");
        }
        r.is("spread 7", 6);
        r.is("spread 6", 1);
        // the first and the last PAINT of thirty
        r.anew("paint 3 2 8");
        r.is("spread 8", 1);
        r.does(EdgeTest.times(28, "paint 1 3 8"));
        r.does("paint 3 4 8");
        r.is("spread 8", 2);
    }

    private static void first(Runs r) {
        r.about(41, "FIRST of a WHAT; NONE. Throws as spread().");
        r.does(EdgeTest.rich());
        r.still(Runs.IAE, "first -1", "first 10", "first -2147483648", "first 2147483647");
        r.still(NONE, "first 0", "first 3", "first 8");
        r.still(2, "first 4");
        r.still(6, "first 9");

        r.about(0, "FIRST of it: of these the PAINT with the greatest LEAST, the least number.");
        wall(r, "paint 1 0 7", "paint 3 0 7", "paint 3 0 7", "paint 3 0 7", "paint 2 0 7");
        r.is("first 7", 1);
        aged(r, 0, OVER, 4, 90);
        r.is("first 7", 1);
        aged(r, 1, OVER, 3, 1);
        r.is("first 7", 3);
        aged(r, 2, OVER, 2, 1);
        r.is("first 7", 2);
        aged(r, 3, OVER, 1, 2);
        r.is("first 7", 1);
        r.does("over 4 3");
        r.is("first 7", 3);
        // the first and the last PAINT of thirty
        wall(r, "paint 3 0 8");
        r.is("first 8", 0);
        r.does(EdgeTest.times(28, "paint 1 0 8"));
        r.does("paint 3 0 8");
        r.is("first 8", 0);
        aged(r, 0, OVER, 29, 1);
        r.is("first 8", 29);
        r.does("over 29 0");
        r.is("first 8", 0);
    }

    private static void planOf(Runs r, int grains, int set, int paints, int taken) {
        r.is("plan " + grains + " 0", set);
        r.is("plan " + grains + " 1", paints);
        r.is("plan " + grains + " 2", taken);
    }

    private static void plan(Runs r) {
        r.about(42, "PLAN, what 0: the set, 1: how many PAINTS would have such a SKIN, 2: GRAINS. IllegalArgumentException: the GRAINS, another what.");
        r.does(EdgeTest.rich());
        r.still(Runs.IAE, "plan -1 0", "plan 1000 0", "plan 0 -1", "plan 0 3", "plan -2147483648 0", "plan 2147483647 0",
                "plan 0 2147483647", "plan 1000 3");
        // 2 of 7 GRAINS and 4 of 4 have no LAYERS; PAINTS 0 and 1 have a SKIN with LAYERS
        r.still(0, "plan 0 0", "plan 3 0", "plan 3 2");
        r.still(2, "plan 3 1");
        r.still(16, "plan 4 0", "plan 10 0");
        r.still(4, "plan 4 2", "plan 10 2");
        r.still(20, "plan 11 0", "plan 999 0");
        r.still(11, "plan 11 2");
        r.still(4, "plan 11 1");

        r.about(0, "PLAN for so many GRAINS (0 to 999): of SKINS with no LAYERS that are OVER or UNDER (the first 12 of these) the set whose GRAINS together are no more, by which most PAINTS would have a SKIN with LAYERS OVER or UNDER them; of like ones fewest GRAINS, then the least set as bits (of SKINS' numbers).");
        wall(r, "paint 1 0 0");
        planOf(r, 999, 0, 0, 0);
        r.does("skin 0 0 0 1");
        planOf(r, 999, 0, 0, 0);
        r.does("skin 0 1 0 9");
        planOf(r, 8, 0, 0, 0);
        planOf(r, 9, 2, 1, 9);
        planOf(r, 0, 0, 0, 0);
        r.does("layer 1 0 0 0");
        planOf(r, 9, 0, 1, 0);
        // twelve, and two more that cost less and have PAINTS of their own
        r.anew();
        List<String> s = new ArrayList<>();
        for (int i = 0; i < 14; i++) {
            s.add("paint 1 0 0");
        }
        for (int i = 0; i < 14; i++) {
            s.add("skin 0 " + (1 + i % 2) + " " + i + " " + (i < 12 ? 99 : 1));
        }
        r.does(s.toArray(new String[0]));
        planOf(r, 98, 0, 0, 0);
        planOf(r, 99, 1, 1, 99);
        planOf(r, 197, 1, 1, 99);
        planOf(r, 198, 3, 2, 198);
        planOf(r, 990, 1023, 10, 990);
        planOf(r, 999, 1023, 10, 990);
        // a SKIN with LAYERS is none of the twelve: the next one is
        r.does("layer 3 0 0 0");
        planOf(r, 1, 1 << 12, 2, 1);
        r.does("layer 4 0 0 0");
        planOf(r, 2, 3 << 12, 4, 2);
    }

    private static void planOfLikeOnes(Runs r) {
        r.about(0, "of like ones fewest GRAINS, then the least set as bits (of SKINS' numbers).");
        wall(r, "paint 1 0 0", "paint 1 0 0", "skin 0 1 0 5", "skin 0 2 0 4", "skin 0 1 0 4", "skin 0 1 1 9", "skin 0 2 1 8");
        planOf(r, 4, 2, 1, 4);
        planOf(r, 11, 2, 1, 4);
        planOf(r, 12, 18, 2, 12);
        planOf(r, 999, 18, 2, 12);
        // more PAINTS for more GRAINS; a lower set of as many is taken, a higher one isn't
        wall(r, "paint 1 0 0", "paint 1 0 0", "paint 1 0 0", "skin 0 1 2 3", "skin 0 1 1 3", "skin 0 1 0 3", "skin 0 1 2 6");
        planOf(r, 3, 1, 1, 3);
        planOf(r, 6, 3, 2, 6);
        planOf(r, 8, 3, 2, 6);
        planOf(r, 9, 7, 3, 9);
        // as bits one of a higher number is above all lower ones together
        wall(r, "paint 1 0 0", "paint 1 0 0", "paint 1 0 0", "skin 0 1 0 2", "skin 0 1 1 2", "skin 0 1 2 3", "skin 0 2 0 1");
        planOf(r, 4, 10, 2, 3);
        wall(r, "paint 1 0 0", "paint 1 0 0", "paint 1 0 0", "paint 1 0 0", "skin 0 1 0 1", "skin 0 1 1 3", "skin 0 1 2 3", "skin 0 1 3 1");
        planOf(r, 4, 9, 2, 2);
        planOf(r, 5, 11, 3, 5);
        // as SKINS get LAYERS there are fewer to choose from
        wall(r, "paint 1 0 0", "paint 1 0 0", "paint 1 0 0", "skin 0 1 0 5", "skin 0 1 1 6", "skin 0 1 2 7");
        planOf(r, 999, 7, 3, 18);
        r.does("layer 0 0 0 0");
        planOf(r, 999, 6, 3, 13);
        planOf(r, 6, 2, 2, 6);
        r.does("layer 2 0 0 0");
        planOf(r, 999, 2, 3, 6);
        planOf(r, 5, 0, 2, 0);
        // PAINTS next to those that have a SKIN with LAYERS
        wall(r, "paint 1 0 0", "paint 1 0 0", "paint 1 0 0", "skin 0 1 1 1", "layer 0 0 0 0", "skin 0 1 0 2", "skin 0 1 2 3");
        planOf(r, 2, 2, 2, 2);
        planOf(r, 5, 6, 3, 5);
        // the SKIN of the highest number: a set of the highest bit
        r.anew("paint 1 0 0");
        r.does(EdgeTest.times(29, "skin 0 0 0 1"));
        r.does("skin 0 2 0 1");
        planOf(r, 1, 1 << 29, 1, 1);
    }

    private static void scrapers(Runs r, String text) {
        r.does(Runs.fed(text).toArray(new String[0]));
        r.does("scrapers " + text.length());
    }

    private static void row(Runs r, int grains, int... skins) {
        r.is("follow " + grains + " -1", skins.length);
        for (int i = 0; i < skins.length; i++) {
            r.is("follow " + grains + " " + i, skins[i]);
        }
        r.is("follow " + grains + " " + skins.length, NONE);
    }

    private static void follow(Runs r) {
        r.about(43, "FOLLOWED: how many are in the row (i NONE), or the i-th SKIN; NONE: not so many. IllegalArgumentException: the GRAINS.");
        r.does(EdgeTest.rich());
        r.still(Runs.IAE, "follow -1 0", "follow 1000 0", "follow -1 -1", "follow 1000 -1", "follow -2147483648 0",
                "follow 2147483647 -1", "follow 1000 99");
        r.still(2, "follow 999 -1", "follow 999 0");
        r.still(4, "follow 999 1");
        r.still(NONE, "follow 999 2", "follow 999 -2", "follow 999 -2147483648", "follow 999 2147483647", "follow 0 0");
        r.still(0, "follow 0 -1");
        r.is("follow 11 -1", 2);
        r.is("follow 10 -1", 1);

        r.about(0, "FOLLOWED for so many GRAINS: a row of SKINS with no LAYERS: again and again the first RULE is looked for by which there is one that isn't in the row, lies so, whose GRAINS are no more than what is left, and for which the TEST holds; of such ones the one with fewest GRAINS, the least number, is next; till there is no such RULE.");
        wall(r, "paint 1 0 0", "skin 0 0 0 5", "skin 0 0 0 4", "skin 0 0 0 4", "skin 0 1 0 4", "skin 0 2 0 6");
        row(r, 999);
        scrapers(r, "scrape beside;");
        row(r, 999, 1, 2, 0);
        row(r, 13, 1, 2, 0);
        row(r, 12, 1, 2);
        row(r, 8, 1, 2);
        row(r, 7, 1);
        row(r, 4, 1);
        row(r, 3);
        row(r, 0);
        scrapers(r, "scrape under;scrape over;scrape beside;");
        row(r, 999, 4, 3, 1, 2, 0);
        // too dear for the first RULE, not for the next
        row(r, 5, 3);
        row(r, 9, 4);
        row(r, 10, 4, 3);
        r.does("layer 1 0 0 0");
        row(r, 999, 4, 3, 2, 0);
        r.does("layer 4 0 0 0");
        row(r, 999, 3, 2, 0);
        // the first RULE is looked for anew each time
        wall(r, "paint 1 0 0", "paint 0 0 0", "skin 0 1 0 1", "skin 0 1 1 2", "skin 0 2 0 3", "skin 0 2 1 4");
        scrapers(r, "scrape over if not bare;scrape under;");
        row(r, 999, 2, 0, 3, 1);
        scrapers(r, "scrape over if bare;scrape under if not bare;");
        row(r, 999, 0, 1, 2, 3);
        scrapers(r, "scrape over if bare;scrape under if not bare and disc;scrape over;scrape under;");
        row(r, 999, 0, 1, 2, 3);
        row(r, 2, 0);
        row(r, 4, 0, 1);
        // all thirty
        r.anew(EdgeTest.times(30, "skin 0 0 0 33"));
        scrapers(r, "scrape beside;");
        r.is("follow 990 -1", 30);
        r.is("follow 989 -1", 29);
        r.is("follow 999 29", 29);
        r.is("follow 999 30", NONE);
    }

    private static void facts(Runs r) {
        r.about(0, "cheap: its GRAINS are N or fewer; cave: it is there; hand, disc, beast, sign: its PAINT is one; bare: no SKIN OVER or UNDER its PAINT has LAYERS or is in the row; open: its PAINT's LEAST is 0 and MOST 400 (as things are); of one BESIDE these six aren't so.");
        String[] kinds = {"hand", "disc", "beast", "sign"};
        List<String> s = new ArrayList<>();
        for (int kind = 0; kind < 4; kind++) {
            s.addAll(Arrays.asList("paint " + kind + " " + kind + " 0", "skin " + kind + " 1 " + kind + " " + (10 + kind),
                    "skin " + kind + " 0 " + kind + " " + (20 + kind)));
        }
        wall(r, s.toArray(new String[0]));
        for (int kind = 0; kind < 4; kind++) {
            scrapers(r, "scrape over if " + kinds[kind] + ";");
            row(r, 999, 2 * kind);
            scrapers(r, "scrape over if cave " + kind + ";");
            row(r, 999, 2 * kind);
            scrapers(r, "scrape beside if cave " + kind + ";");
            row(r, 999, 2 * kind + 1);
            scrapers(r, "scrape beside if " + kinds[kind] + ";");
            row(r, 999);
        }
        scrapers(r, "scrape over if cheap 11;");
        row(r, 999, 0, 2);
        scrapers(r, "scrape beside if cheap 21;");
        row(r, 999, 1, 3);
        scrapers(r, "scrape over if cave 5;");
        row(r, 999);
        r.anew(s.toArray(new String[0]));
        scrapers(r, "scrape beside if bare or open;");
        row(r, 999);
        scrapers(r, "scrape beside if not bare and not open and not hand;");
        row(r, 999, 1, 3, 5, 7);
        bare(r);
        open(r);
        joined(r);
    }

    private static void bare(Runs r) {
        wall(r, "paint 1 0 0", "paint 1 0 0", "over 0 1", "skin 0 1 0 1", "skin 0 1 0 2", "skin 0 2 0 3", "skin 0 1 1 9");
        scrapers(r, "scrape over if bare;");
        row(r, 999, 0, 3);
        scrapers(r, "scrape under if bare;scrape over if bare;");
        row(r, 999, 2, 3);
        // LAYERS of a SKIN BESIDE are no matter, nor those of another PAINT; a THIN one of its own is
        r.does("skin 0 0 0 9", "layer 4 1 1 1", "layer 3 1 1 1");
        row(r, 999, 2);
        r.does("layer 0 1 1 1");
        row(r, 999);
        r.is("sort 0", 1);
    }

    private static void open(Runs r) {
        wall(r, "paint 1 0 0", "paint 1 0 0", "over 0 1", "skin 0 1 0 1", "skin 0 1 1 2");
        scrapers(r, "scrape over if open;");
        row(r, 999, 0, 1);
        aged(r, 2, OVER, 0, 0);
        aged(r, 3, UNDER, 1, 400);
        row(r, 999, 0, 1);
        aged(r, 4, OVER, 1, 1);
        row(r, 999, 0);
        aged(r, 5, UNDER, 0, 399);
        row(r, 999);
        // the last of thirty PAINTS
        wall(r, EdgeTest.times(30, "paint 1 0 0"));
        r.does("skin 0 1 29 1", "skin 0 1 28 1");
        scrapers(r, "scrape over if open;");
        row(r, 999, 0, 1);
        aged(r, 2, UNDER, 29, 399);
        row(r, 999, 1);
    }

    private static void joined(Runs r) {
        wall(r, "paint 0 0 0", "paint 1 1 0", "paint 1 0 0", "skin 0 1 0 1", "skin 1 1 1 2", "skin 0 1 2 3");
        // and binds more than or, not more than both
        scrapers(r, "scrape over if hand or disc and cave 1;");
        row(r, 999, 0, 1);
        scrapers(r, "scrape over if cave 1 and disc or hand;");
        row(r, 999, 0, 1);
        scrapers(r, "scrape over if(hand or disc)and cave 0;");
        row(r, 999, 0, 2);
        scrapers(r, "scrape over if not hand and cave 0;");
        row(r, 999, 2);
        scrapers(r, "scrape over if not(hand and cave 0);");
        row(r, 999, 1, 2);
        scrapers(r, "scrape over if not hand or cave 0;");
        row(r, 999, 0, 1, 2);
        scrapers(r, "scrape over if not not hand;");
        row(r, 999, 0);
        scrapers(r, "scrape over if" + " not".repeat(8) + " disc;");
        row(r, 999, 1, 2);
        scrapers(r, "scrape over if" + " not".repeat(7) + " disc;");
        row(r, 999, 0);
        // eight open, each with an or and an and before what it opens
        scrapers(r, "scrape over if " + "sign or cave 0 and(".repeat(8) + "hand" + ")".repeat(8) + ";");
        row(r, 999, 0);
        scrapers(r, "scrape over if " + "sign or cave 0 and(".repeat(8) + "sign or disc" + ")".repeat(8) + ";");
        row(r, 999, 2);
    }

    private static void behind(Runs r) {
        r.about(44, "How many PAINTS fewer would have a SKIN with LAYERS OVER or UNDER them by FOLLOWED than by PLAN (below 0: more). IllegalArgumentException: the GRAINS.");
        r.does(EdgeTest.rich());
        r.still(Runs.IAE, "behind -1", "behind 1000", "behind -2147483648", "behind 2147483647");
        r.still(0, "behind 0", "behind 999", "behind 3");
        // for 4 GRAINS by PLAN PAINT 3 has one, by FOLLOWED too; for 6 as well
        r.still(0, "behind 4", "behind 6", "behind 11");
        r.takes("scrapers", "", 0);
        r.is("behind 3", 0);
        r.is("behind 4", 1);
        r.is("behind 11", 2);
        r.is("behind 999", 2);
        // 13 SKINS of 13 PAINTS: by PLAN the first 12
        r.anew();
        for (int i = 0; i < 13; i++) {
            r.does("paint 1 0 0", "skin 0 1 " + i + " 1");
        }
        scrapers(r, "scrape over;");
        r.is("behind 999", -1);
        r.is("behind 12", 0);
        r.is("behind 13", -1);
        // what is BESIDE, and what was there already, is no matter
        r.does("skin 0 0 0 1", "layer 0 1 1 1");
        scrapers(r, "scrape beside;");
        r.is("behind 999", 12);
        scrapers(r, "scrape over if not bare;");
        r.does("skin 0 2 0 1", "skin 0 1 0 1");
        r.is("behind 1", 1);
        r.is("behind 999", 12);
    }

    private static void say(Runs r) {
        r.about(45, "SAY.");
        r.does(EdgeTest.rich());
        r.still(2, "say 3", "say 4");
        r.still(Runs.NSE, "say 7", "say -1", "say 30");

        r.about(0, "SAY of a PAINT, the first that holds: 0 RING; 1 CLASH; 2 LEAST is 0 and MOST 400; 3 LEAST is above the latest thousand of years ago (the greatest) of all peoples told (some are); 4 one people is ALONE in all TIMES (there are some); 5 LEAST is above 0 and MOST below 400; 6 LEAST is above 0; 7 else.");
        wall(r, "paint 1 0 0");
        r.is("say 0", 2);
        stories(r, "people 0 in 0 to 400;");
        r.is("say 0", 2);
        aged(r, 0, OVER, 0, 0);
        aged(r, 1, UNDER, 0, 400);
        r.is("say 0", 2);
        stories(r, "");
        aged(r, 2, UNDER, 0, 399);
        r.is("say 0", 7);
        aged(r, 3, OVER, 0, 1);
        r.is("say 0", 5);
        wall(r, "paint 1 0 0");
        aged(r, 0, OVER, 0, 1);
        r.is("say 0", 6);
        aged(r, 1, UNDER, 0, 1);
        r.is("say 0", 5);
        aged(r, 2, UNDER, 0, 0);
        r.is("say 0", 1);
        r.does("paint 1 0 0", "paint 1 0 0", "over 0 1", "over 1 2");
        r.is("say 0", 1);
        r.does("over 2 0");
        r.is("say 0", 0);
        r.is("say 1", 0);
        sayOfPeoples(r);
    }

    private static void sayOfPeoples(Runs r) {
        wall(r, "paint 1 0 0");
        aged(r, 0, OVER, 0, 50);
        aged(r, 1, UNDER, 0, 60);
        r.is("say 0", 5);
        stories(r, "people 1 in 0 to 9;people 5 in 0 to 49;people 0 in 3 to 4;");
        r.is("say 0", 3);
        stories(r, "people 5 in 0 to 50;");
        r.is("say 0", 5);
        stories(r, "beast 5 in 0 to 3;");
        r.is("say 0", 5);
        stories(r, "people 5 in 50 to 60;");
        r.is("say 0", 4);
        stories(r, "people 5 in 50 to 59;");
        r.is("say 0", 5);
        stories(r, "people 5 in 51 to 60;");
        r.is("say 0", 5);
        stories(r, "people 0 in 0 to 55;people 0 in 56 to 400;people 1 in 61 to 61;people 1 in 49 to 49;");
        r.is("say 0", 4);
        stories(r, "people 0 in 0 to 400;people 1 in 60 to 61;");
        r.is("say 0", 5);
        stories(r, "people 0 in 0 to 400;people 1 in 49 to 50;");
        r.is("say 0", 5);
        stories(r, "people 0 in 50 to 55;people 1 in 56 to 60;");
        r.is("say 0", 5);
        // a people is ALONE in all TIMES, but there are none
        wall(r, "paint 2 0 1");
        aged(r, 0, UNDER, 0, 60);
        stories(r, "people 0 in 0 to 400;beast 1 in 61 to 400;");
        r.is("say 0", 7);
        stories(r, "people 0 in 0 to 400;beast 1 in 60 to 400;");
        r.is("say 0", 4);
        stories(r, "people 0 in 0 to 400;");
        r.is("say 0", 7);
        aged(r, 1, OVER, 0, 1);
        r.is("say 0", 5);
        // 3 comes before 4, 5 and 6, not before 1
        wall(r, "paint 1 0 0");
        aged(r, 0, OVER, 0, 400);
        stories(r, "people 0 in 0 to 399;");
        r.is("say 0", 3);
        stories(r, "people 0 in 0 to 400;");
        r.is("say 0", 4);
        aged(r, 1, UNDER, 0, 399);
        stories(r, "people 0 in 0 to 9;");
        r.is("say 0", 1);
    }

    private static void throwsInTurn(Runs r) {
        r.about(0, "Of several throws of a call that one comes that is told first.");
        r.does(EdgeTest.rich());
        for (String call : new String[] {"times", "who", "alone", "older", "of"}) {
            r.still(Runs.NSE, call + " 7 999", call + " -1 -9");
            r.still(Runs.IAE, call + " 6 999", call + " 0 -9");
        }
    }
}
