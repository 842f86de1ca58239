/** Promises 13 to 19: the clock, SORTS, what SKINS SAY, LEAKED, DRIPS. */
public final class ClockTest {
    private static final Checks C = new Checks("ClockTest");

    public static void main(String[] args) {
        age();
        span();
        sort();
        says();
        leaked();
        drip();
        trial();
        C.end();
    }

    private static void age() {
        C.promise(13);
        RedHands x = new RedHands();
        C.due("at once", x.age(0, 0, 0, 0), 0);
        // 10 000 at first, then less and less: 0, 10000, 19900, 29701
        C.due("just there", x.age(10, 1000, 0, 0), 1);
        C.due("a little more", x.age(11, 1000, 0, 0), 2);
        C.due("three times", x.age(29, 1000, 0, 0), 3);
        C.due("dirt alone", x.age(50, 1000, 100, 50), 0);
        C.due("dirt and more", x.age(51, 1000, 100, 50), 1);
        C.due("never", x.age(1000, 1000, 0, 0), 400);
        C.due("b below what there is", x.age(99, 10, 100, 98), 400);
        C.due("by 0 once it is cut", x.age(1, 0, 0, 0), 400);
        Checks.law(x, "rate 99;");
        // nine tenths are there when 901 thousandths, again and again by themselves, are below one
        C.due("fast", x.age(9000, 9999, 0, 0), 23);
        C.due("greatest numbers: its last steps are cut to 0", x.age(9999, 9999, 9999, 99), 400);
        C.due("more than all", x.age(9999, 9998, 0, 0), 400);
        Checks.law(x, "rate 1;");
        // 990 at first, then one more each time
        C.due("one by one", x.age(1, 2, 99, 1), 10);
        C.fails("a", Checks.IAE, () -> x.age(10000, 0, 0, 0));
        C.fails("b", Checks.IAE, () -> x.age(0, 10000, 0, 0));
        C.fails("d", Checks.IAE, () -> x.age(0, 0, -1, 0));
        C.fails("share 100", Checks.IAE, () -> x.age(0, 0, 0, 100));
        C.fails("share -1", Checks.IAE, () -> x.age(0, 0, 0, -1));
        C.fails("a -1", Checks.IAE, () -> x.age(-1, 0, 0, 0));
    }

    private static void span() {
        C.promise(14);
        RedHands x = new RedHands();
        x.skin(0, 0, 0, 1);
        x.layer(0, 100, 1000, 100);
        // 95 by 60 of a hundred of dirt, 105 by 20
        C.due("LEAST", x.span(0, 0, false), x.age(95, 1000, 100, 60));
        C.due("LEAST is", x.span(0, 0, false), 4);
        C.due("GREATEST", x.span(0, 0, true), x.age(105, 1000, 100, 20));
        C.due("GREATEST is", x.span(0, 0, true), 10);
        x.layer(0, 100, 49, 0);
        C.due("THIN", x.span(0, 1, false), RedHands.NONE);
        C.due("THIN, most", x.span(0, 1, true), RedHands.NONE);
        x.layer(0, 0, 50, 0);
        C.due("not THIN", x.span(0, 2, true), 0);
        Checks.law(x, "thin 49; off 0; dirt 0 to 0;");
        C.due("by another law", x.span(0, 0, false), 11);
        C.due("by another law, most", x.span(0, 0, true), 11);
        C.due("THIN no more", x.span(0, 1, true), 400);
        for (String line : new String[] {"rate 11;", "dirt 0 to 60;", "dirt 20 to 99;", "off 30;"}) {
            Checks.law(x, "");
            int was = 1000 * x.span(0, 0, false) + x.span(0, 0, true);
            Checks.law(x, line);
            C.due("another " + line, 1000 * x.span(0, 0, false) + x.span(0, 0, true) == was, false);
        }
        Checks.law(x, "thin 51;");
        C.due("another thin", x.span(0, 2, true), RedHands.NONE);
        Checks.law(x, "leak 51;");
        C.due("as before", x.span(0, 2, true), 0);
        Checks.law(x, "thin 999; rate 20;");
        C.due("rate 20", x.span(0, 0, true), x.age(105, 1000, 100, 20));
        C.due("b 50 is THIN now", x.span(0, 2, false), RedHands.NONE);
        C.fails("no SKIN", Checks.NSE, () -> x.span(1, 0, true));
        C.fails("SKIN -1", Checks.NSE, () -> x.span(-1, 0, true));
        C.fails("no LAYER", Checks.NSE, () -> x.span(0, 3, true));
        C.fails("LAYER -1", Checks.NSE, () -> x.span(0, -1, false));
    }

    /** A PAINT and a SKIN that lies so on it, its LAYERS of b 1000 and these counts a (below 0: a THIN one). */
    private static RedHands skin(int lies, int... counts) {
        RedHands x = new RedHands();
        x.paint(0, 0, 0);
        x.skin(0, lies, 0, 1);
        for (int a : counts) {
            x.layer(0, a < 0 ? -a : a, a < 0 ? 49 : 1000, 0);
        }
        return x;
    }

    private static void sort() {
        C.promise(15);
        C.due("no LAYERS", skin(1).sort(0), 0);
        C.due("all THIN", skin(1, -1, -9).sort(0), 1);
        C.due("TURNED", skin(1, 500, 100).sort(0), 2);
        C.due("TURNED by little, within what is off", skin(1, 120, 115).sort(0), 4);
        C.due("TURNED over one between", skin(1, 120, 115, 100).sort(0), 2);
        C.due("TURNED about a THIN one", skin(0, 500, -5, 100).sort(0), 2);
        C.due("a THIN one is no TURN", skin(2, 500, -1).sort(0), 5);
        C.due("a THIN one outside is none", skin(2, -9999, 5).sort(0), 5);
        C.due("BESIDE", skin(0, 100).sort(0), 3);
        C.due("OVER", skin(1, 100, 500).sort(0), 4);
        C.due("UNDER", skin(2, 100, 100).sort(0), 5);
        RedHands x = skin(1, 150, 100);
        C.due("TURNED by more", x.sort(0), 2);
        Checks.law(x, "off 50;");
        C.due("by another law", x.sort(0), 4);
        C.fails("no SKIN", Checks.NSE, () -> x.sort(1));
        C.fails("SKIN -1", Checks.NSE, () -> x.sort(-1));
    }

    private static void says() {
        C.promise(16);
        C.due("no LAYERS", skin(1).says(0), RedHands.NONE);
        C.due("all THIN", skin(1, -1).says(0), RedHands.NONE);
        C.due("TURNED", skin(1, 500, 100).says(0), RedHands.NONE);
        C.due("BESIDE", skin(0, 100).says(0), RedHands.NONE);
        C.due("OVER: LEAST of the innermost", skin(1, 100, 500).says(0), 65);
        C.due("OVER, the innermost are THIN", skin(1, 100, -500, -1).says(0), 10);
        C.due("UNDER: GREATEST of the outermost", skin(2, 100, 500).says(0), 12);
        C.due("UNDER, the outermost is THIN", skin(2, -1, 100, 500).says(0), 12);
        RedHands x = skin(1, 100);
        C.fails("no SKIN", Checks.NSE, () -> x.says(1));
        C.fails("SKIN -1", Checks.NSE, () -> x.says(-1));
    }

    private static void leak(String what, RedHands x, long upper, long lower) {
        x.leaked(0);
        C.fraction(what, x, upper, lower);
    }

    private static void leaked() {
        C.promise(17);
        leak("no LAYERS", skin(1), 1, 10);
        leak("THIN", skin(1, -5, -5), 1, 10);
        leak("TURNED", skin(1, 500, 100), 1, 1);
        leak("one", skin(2, 100), 1, 10);
        leak("one, and THIN ones", skin(0, -5, 100, -5), 1, 10);
        leak("two", skin(0, 100, 200), 1, 19);
        leak("three", skin(1, 100, 200, 300), 1, 55);
        leak("four", skin(2, 100, 200, 300, 400), 1, 217);
        RedHands x = skin(2, 100, 200, 300, 400);
        Checks.law(x, "leak 25;");
        leak("four by leak 25", x, 1, 73);
        Checks.law(x, "leak 99;");
        leak("four by leak 99", x, 33, 41);
        C.fails("no SKIN", Checks.NSE, () -> x.leaked(1));
        C.fails("SKIN -1", Checks.NSE, () -> x.leaked(-1));
    }

    private static void drip() {
        C.promise(18);
        RedHands x = skin(1);
        C.due("grown 10 times, drawn by seed 1", x.drip(0, 10, 1000, 0, 0, 1), 99);
        C.due("LAYERS", x.count(100), 1);
        C.due("its LEAST", x.span(0, 0, false), x.age(99 * 95 / 100, 1000, 0, 60));
        Checks.law(x, "off 0;");
        C.due("nothing drawn", x.drip(0, 10, 1000, 0, 0, 1), 95);
        C.due("only dirt", x.drip(0, 0, 1000, 200, 50, 77), 100);
        Checks.law(x, "off 50;");
        // e is 25, and seed 1 draws 16838, of 51 that leaves 8
        C.due("by half", x.drip(0, 0, 0, 100, 50, 1), 50 - 25 + 8);
        C.due("a 5th", x.drip(0, 10, 1000, 0, 0, 1), RedHands.NONE);
        x.skin(0, 0, 0, 1);
        // 9899, e 4949, 16838 of 9899 leaves 6939: 11889 is cut
        C.due("no more than 9999", x.drip(1, 0, 0, 9999, 99, 1), 9999);
        // -1103502900 is 3191464396 without a sign, its higher half 48697, of 11 that leaves 0
        C.due("a seed below 0", x.drip(1, 1, 1000, 0, 0, -1), 10 - 5 + 0);
        C.due("none at all", x.drip(1, 0, 1000, 0, 99, 5), 0);
        Checks.law(x, "rate 1;");
        C.due("one by one", x.drip(1, 10, 2, 99, 1, 5), 1);
        x.skin(0, 0, 0, 1);
        C.due("one time less", x.drip(2, 9, 2, 99, 1, 5), 0);
        draws();
        C.fails("no SKIN", Checks.NSE, () -> x.drip(3, -1, 0, 0, 0, 0));
        C.fails("AGE -1", Checks.IAE, () -> x.drip(1, -1, 0, 0, 0, 0));
        C.fails("AGE 401", Checks.IAE, () -> x.drip(1, 401, 0, 0, 0, 0));
        C.fails("b", Checks.IAE, () -> x.drip(1, 0, 10000, 0, 0, 0));
        C.fails("d", Checks.IAE, () -> x.drip(1, 0, 0, -1, 0, 0));
        C.fails("share", Checks.IAE, () -> x.drip(1, 0, 0, 0, 100, 0));
        C.fails("AGE of a full SKIN", Checks.IAE, () -> x.drip(0, 401, 0, 0, 0, 0));
    }

    /** 100 by off 50, drawn by seeds for which x is just at, or just below, another higher half. */
    private static void draws() {
        RedHands x = skin(0);
        Checks.law(x, "off 50;");
        int[] seeds = new int[4];
        int found = 0;
        for (int seed = 1; found < 4; seed++) {
            int low = 1103515245 * seed + 12345 & 0xffff;
            if (low == (found % 2 == 0 ? 0 : 0xffff)) {
                seeds[found] = seed;
                found++;
            }
        }
        for (int seed : seeds) {
            long draw = (1103515245L * seed + 12345 & 0xffffffffL) / 65536;
            C.due("seed " + seed, x.drip(0, 0, 0, 100, 99, seed), 99 - 49 + draw % 99);
        }
    }

    private static void trial() {
        C.promise(19);
        RedHands x = new RedHands();
        C.due("THIN ones don't", x.trial(10, 49, 0, 40, 100), 0);
        C.due("AGE 0 of nothing", x.trial(0, 1000, 0, 0, 100), 100);
        C.due("within, all", x.trial(20, 1000, 10, 40, 100), 100);
        // dirt of a share above 60: all seem older than they are
        C.due("too much dirt", x.trial(5, 1000, 1000, 99, 100), 0);
        Checks.law(x, "off 50;dirt 40 to 40;");
        int each = 0;
        RedHands y = new RedHands();
        Checks.law(y, "off 50;dirt 40 to 40;");
        for (int seed = 1; seed <= 30; seed++) {
            y.skin(0, 0, 0, 1);
            y.drip(seed - 1, 30, 1000, 100, 45, seed);
            each += y.span(seed - 1, 0, false) <= 30 && 30 <= y.span(seed - 1, 0, true) ? 1 : 0;
        }
        C.due("as drips one by one", x.trial(30, 1000, 100, 45, 30), each);
        C.due("some are, some aren't", each > 0 && each < 30, true);
        Checks.law(x, "off 0;");
        // 20 counts are there at once, by the dirt alone: GREATEST is 0
        C.due("just below the AGE", x.trial(1, 50, 100, 20, 1), 0);
        C.due("AGE 400 of what never comes", x.trial(400, 1000, 0, 0, 7), 7);
        C.fails("AGE", Checks.IAE, () -> x.trial(401, 0, 0, 0, 1));
        C.fails("AGE -1", Checks.IAE, () -> x.trial(-1, 0, 0, 0, 1));
        C.fails("b", Checks.IAE, () -> x.trial(0, -1, 0, 0, 1));
        C.fails("d", Checks.IAE, () -> x.trial(0, 0, 10000, 0, 1));
        C.fails("share", Checks.IAE, () -> x.trial(0, 0, 0, -1, 1));
        C.fails("n 0", Checks.IAE, () -> x.trial(0, 0, 0, 0, 0));
        C.fails("n 101", Checks.IAE, () -> x.trial(0, 0, 0, 0, 101));
    }
}
