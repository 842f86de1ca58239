/** Promises 1 to 7 and 46 to 51: paints, skins, trays, images. */
public final class WallTest {
    private static final Checks C = new Checks("WallTest");

    public static void main(String[] args) {
        newObject();
        paint();
        fingers();
        over();
        skin();
        layer();
        of();
        tray();
        write();
        pour();
        image();
        restore();
        count();
        C.end();
    }

    private static void newObject() {
        C.promise(1);
        RedHands x = new RedHands();
        int[] first = {0, 0, 0, 0, 0, 0, 0, 10, 20, 60, 50, 5, 10, 6, 0};
        for (int i = 0; i < first.length; i++) {
            C.due("count(" + i + ")", x.count(i), first[i]);
        }
        C.fraction("no FRACTION", x, 0, 0);
        C.due("fault(0)", x.fault(0), 0);
        C.due("fault(1)", x.fault(1), RedHands.NONE);
        C.due("clash(NONE)", x.clash(RedHands.NONE), 0);
        C.due("plan(999, 0)", x.plan(999, 0), 0);
        C.due("follow(999, NONE)", x.follow(999, RedHands.NONE), 0);
        for (int t = 0; t < 4; t++) {
            int tray = t;
            C.fails("write to a MISSING TRAY", Checks.ISE, () -> x.write(tray, 0, 1));
        }
        for (int i = 0; i < 3; i++) {
            int image = i;
            C.fails("restore without an IMAGE", Checks.ISE, () -> x.restore(image));
        }
        C.due("NONE", RedHands.NONE, -1);
    }

    private static void paint() {
        C.promise(2);
        RedHands x = new RedHands();
        int[][] bad = {{-1, 0, 0}, {4, 0, 0}, {0, -1, 0}, {0, 6, 0}, {0, 0, -1}, {0, 0, 10}};
        for (int[] v : bad) {
            C.fails("paint of a number", Checks.IAE, () -> x.paint(v[0], v[1], v[2]));
        }
        for (int i = 0; i < 30; i++) {
            C.due("paint " + i, x.paint(i % 4, i % 6, i % 10), i);
        }
        C.due("paint 30", x.paint(0, 0, 0), RedHands.NONE);
        C.fails("paint 30 of a number", Checks.IAE, () -> x.paint(4, 0, 0));
        C.due("the last KIND", x.of(29, 0), 1);
        C.due("the last CAVE", x.of(29, 1), 5);
        C.due("the last WHAT", x.of(29, 2), 9);
    }

    private static void fingers() {
        C.promise(3);
        RedHands x = new RedHands();
        x.paint(0, 0, 0);
        x.paint(1, 0, 0);
        C.fails("fingers of no PAINT", Checks.NSE, () -> x.fingers(2, 1, 1, 1, 1, 1));
        C.fails("fingers of PAINT -1", Checks.NSE, () -> x.fingers(-1, 1, 1, 1, 1, 100));
        C.fails("fingers of no hand", Checks.ISE, () -> x.fingers(1, 1, 1, 1, 1, 100));
        C.fails("fingers thumb", Checks.IAE, () -> x.fingers(0, -1, 1, 1, 1, 1));
        C.fails("fingers index", Checks.IAE, () -> x.fingers(0, 1, 100, 1, 1, 1));
        C.fails("fingers middle", Checks.IAE, () -> x.fingers(0, 1, 1, -1, 1, 1));
        C.fails("fingers ring", Checks.IAE, () -> x.fingers(0, 1, 1, 1, 100, 1));
        C.fails("fingers little", Checks.IAE, () -> x.fingers(0, 1, 1, 1, 1, 100));
        C.due("no finger at first", x.of(0, 4), 0);
        x.fingers(0, 99, 0, 3, 4, 5);
        int[] five = {99, 0, 3, 4, 5};
        for (int i = 0; i < 5; i++) {
            C.due("finger " + i, x.of(0, 3 + i), five[i]);
        }
    }

    private static void over() {
        C.promise(4);
        RedHands x = new RedHands();
        for (int i = 0; i < 12; i++) {
            x.paint(1, i == 11 ? 1 : 0, 0);
        }
        C.fails("over no PAINT", Checks.NSE, () -> x.over(0, 12));
        C.fails("no PAINT over", Checks.NSE, () -> x.over(12, 0));
        C.fails("PAINT -1 over", Checks.NSE, () -> x.over(-1, 0));
        C.fails("PAINT -1 over itself", Checks.NSE, () -> x.over(-1, -1));
        C.fails("over itself", Checks.IAE, () -> x.over(3, 3));
        C.fails("over one of another CAVE", Checks.IAE, () -> x.over(0, 11));
        C.due("over(0, 1)", x.over(0, 1), true);
        C.due("over(0, 1) again", x.over(0, 1), false);
        C.due("over(1, 0)", x.over(1, 0), false);
        int told = 1;
        for (int a = 0; a < 10; a++) {
            for (int b = a + 1; b < 11 && told < 40; b++) {
                if (a != 0 || b != 1) {
                    C.due("over(" + a + ", " + b + ")", x.over(a, b), true);
                    told++;
                }
            }
        }
        C.due("of ORDER", x.count(2), 40);
        C.due("a 41st", x.over(9, 10), false);
        C.due("a 41st, still", x.above(9, 10), false);
        C.due("of ORDER, still", x.count(2), 40);
    }

    private static void skin() {
        C.promise(5);
        RedHands x = new RedHands();
        x.paint(0, 1, 0);
        C.fails("OVER no PAINT", Checks.NSE, () -> x.skin(9, 1, 1, 0));
        C.fails("UNDER no PAINT", Checks.NSE, () -> x.skin(1, 2, -1, 5));
        C.fails("CAVE", Checks.IAE, () -> x.skin(6, 0, 0, 5));
        C.fails("CAVE -1", Checks.IAE, () -> x.skin(-1, 0, 0, 5));
        C.fails("lies 3", Checks.IAE, () -> x.skin(1, 3, 9, 5));
        C.fails("lies -1", Checks.IAE, () -> x.skin(1, -1, 9, 5));
        C.fails("GRAINS 0", Checks.IAE, () -> x.skin(1, 0, 0, 0));
        C.fails("GRAINS 100", Checks.IAE, () -> x.skin(1, 1, 0, 100));
        C.fails("another CAVE", Checks.IAE, () -> x.skin(2, 1, 0, 5));
        C.due("BESIDE, no PAINT is asked", x.skin(5, 0, 77, 1), 0);
        C.due("OVER", x.skin(1, 1, 0, 99), 1);
        for (int i = 2; i < 30; i++) {
            C.due("skin " + i, x.skin(1, 2, 0, 5), i);
        }
        C.due("skin 30", x.skin(1, 2, 0, 5), RedHands.NONE);
        C.fails("skin 30 of a number", Checks.IAE, () -> x.skin(1, 2, 0, 100));
    }

    private static void layer() {
        C.promise(6);
        RedHands x = new RedHands();
        x.skin(0, 0, 0, 1);
        C.fails("no SKIN", Checks.NSE, () -> x.layer(1, -1, 0, 0));
        C.fails("SKIN -1", Checks.NSE, () -> x.layer(-1, 0, 0, 0));
        C.fails("a", Checks.IAE, () -> x.layer(0, 10000, 0, 0));
        C.fails("b", Checks.IAE, () -> x.layer(0, 0, -1, 0));
        C.fails("d", Checks.IAE, () -> x.layer(0, 0, 0, 10000));
        C.due("1st", x.layer(0, 0, 9999, 0), 1);
        C.due("2nd", x.layer(0, 9999, 1000, 0), 2);
        C.due("3rd", x.layer(0, 0, 0, 9999), 3);
        C.due("4th", x.layer(0, 100, 1000, 0), 4);
        C.due("5th", x.layer(0, 100, 1000, 0), RedHands.NONE);
        C.fails("5th of a count", Checks.IAE, () -> x.layer(0, -1, 1000, 0));
        C.due("the outermost came first", x.span(0, 0, true), 0);
        C.due("the innermost came last", x.span(0, 3, true), 12);
    }

    private static void of() {
        C.promise(7);
        RedHands x = new RedHands();
        x.paint(0, 4, 7);
        x.paint(3, 4, 9);
        x.paint(2, 4, 1);
        x.over(1, 0);
        x.over(2, 0);
        x.over(2, 1);
        x.fingers(0, 11, 12, 13, 14, 15);
        int[] hand = {0, 4, 7, 11, 12, 13, 14, 15, 2};
        int[] sign = {3, 4, 9, 0, 0, 0, 0, 0, 1};
        for (int i = 0; i < 9; i++) {
            C.due("of(0, " + i + ")", x.of(0, i), hand[i]);
            C.due("of(1, " + i + ")", x.of(1, i), sign[i]);
        }
        C.fails("no PAINT", Checks.NSE, () -> x.of(3, 9));
        C.fails("what 9", Checks.IAE, () -> x.of(0, 9));
        C.fails("what -1", Checks.IAE, () -> x.of(0, -1));
    }

    private static void tray() {
        C.promise(46);
        RedHands x = new RedHands();
        C.fails("TRAY 4", Checks.NSE, () -> x.tray(4, 9, 9));
        C.fails("TRAY -1", Checks.NSE, () -> x.tray(-1, 0, 9));
        C.fails("sort 4", Checks.IAE, () -> x.tray(0, 4, 9));
        C.fails("sort -1", Checks.IAE, () -> x.tray(0, -1, 9));
        C.fails("41 numbers", Checks.IAE, () -> x.tray(0, 0, 41));
        C.fails("-1 numbers", Checks.IAE, () -> x.tray(0, 0, -1));
        C.fails("it is MISSING still", Checks.ISE, () -> x.write(0, 0, 0));
        x.tray(0, 0, 0);
        C.fails("no place in an empty row", Checks.IOB, () -> x.write(0, 0, 0));
        x.tray(3, 3, 40);
        C.due("the last place", x.write(3, 39, 5), 5);
        x.tray(3, 3, 5);
        C.fails("the row is shorter now", Checks.IOB, () -> x.write(3, 5, 0));
        x.write(3, 4, 100);
        C.due("weights with 100", x.weights(true, 3), false);
        C.fails("a tray() that throws", Checks.IAE, () -> x.tray(3, 4, 5));
        C.due("leaves the 100", x.weights(true, 3), false);
        x.tray(3, 3, 5);
        C.due("0s again", x.weights(true, 3), true);
        Checks.tray(x, 3, 3, 9, 9, 9, 9, 9, 9);
        x.tray(3, 2, 6);
        x.skin(0, 0, 0, 1);
        Checks.law(x, "thin 1;");
        C.due("LAYERS of 0s", x.pour(0, 3), 2);
        C.due("both THIN", x.sort(0), 1);
        Checks.law(x, "thin 0;");
        C.due("both of age 0", x.span(0, 0, true) == 0 && x.span(0, 1, true) == 0, true);
    }

    private static void write() {
        C.promise(47);
        RedHands x = new RedHands();
        C.fails("TRAY 4", Checks.NSE, () -> x.write(4, 0, 0));
        C.fails("TRAY -1", Checks.NSE, () -> x.write(-1, 0, 0));
        C.fails("MISSING", Checks.ISE, () -> x.write(2, -1, 0));
        for (int sort = 0; sort < 4; sort++) {
            x.tray(sort, sort, 2);
        }
        C.fails("place 2", Checks.IOB, () -> x.write(0, 2, 0));
        C.fails("place -1", Checks.IOB, () -> x.write(0, -1, 0));
        C.due("8 bits", x.write(0, 0, 128), -128);
        C.due("8 bits, 255", x.write(0, 1, 255), -1);
        C.due("8 bits, 127", x.write(0, 1, 127), 127);
        C.due("16 bits", x.write(1, 0, 32768), -32768);
        C.due("16 bits, 65536 and 7", x.write(1, 1, 65543), 7);
        C.due("32 bits", x.write(2, 0, 1L << 31), -(1L << 31));
        C.due("32 bits, 1 less", x.write(2, 1, (1L << 31) - 1), (1L << 31) - 1);
        C.due("64 bits", x.write(3, 0, Long.MIN_VALUE), Long.MIN_VALUE);
        C.due("64 bits, most", x.write(3, 1, Long.MAX_VALUE), Long.MAX_VALUE);
    }

    private static void pour() {
        C.promise(48);
        RedHands x = new RedHands();
        x.skin(0, 0, 0, 1);
        Checks.tray(x, 0, 1, 10, 1000, 0, 100, 1000, 0);
        C.fails("no SKIN", Checks.NSE, () -> x.pour(1, 1));
        C.fails("no TRAY", Checks.NSE, () -> x.pour(0, 4));
        C.fails("MISSING", Checks.ISE, () -> x.pour(0, 1));
        Checks.tray(x, 1, 1, -1, 0, 0, 0);
        C.fails("it ends within a LAYER", Checks.IOB, () -> x.pour(0, 1));
        Checks.tray(x, 1, 1, 1, 2, 10000);
        C.fails("a count of 10000", Checks.IAE, () -> x.pour(0, 1));
        Checks.tray(x, 1, 3, 1, 2, 1L << 32);
        C.fails("a count of 2 to the 32", Checks.IAE, () -> x.pour(0, 1));
        C.due("two of them", x.pour(0, 0), 2);
        C.due("LAYERS", x.count(100), 2);
        C.due("the outer one", x.span(0, 0, true), 1);
        C.due("the inner one", x.span(0, 1, true), 12);
        x.layer(0, 0, 1000, 0);
        C.due("two more would be 5", x.pour(0, 0), RedHands.NONE);
        Checks.tray(x, 2, 1);
        C.due("an empty row", x.pour(0, 2), 0);
        Checks.tray(x, 2, 1, 9999, 0, 9999);
        C.due("one more", x.pour(0, 2), 1);
        C.due("LAYERS then", x.count(100), 4);
        C.due("one more to a full SKIN", x.pour(0, 2), RedHands.NONE);
        Checks.tray(x, 3, 2, 1, 1, -1);
        C.fails("a count, to a full SKIN", Checks.IAE, () -> x.pour(0, 3));
    }

    /** A wall with something of all that an IMAGE holds. */
    private static RedHands full() {
        RedHands x = new RedHands();
        x.paint(0, 0, 0);
        x.paint(2, 0, 3);
        x.over(1, 0);
        x.fingers(0, 50, 20, 55, 55, 55);
        x.skin(0, 1, 1, 5);
        x.layer(0, 100, 1000, 0);
        x.skin(0, 2, 0, 6);
        x.told(0, 50, 52, 55, 55, 55);
        Checks.law(x, "off 0; leak 20;");
        Checks.stories(x, "beast 3 in 1 to 50; people 0 in 1 to 9;");
        Checks.scrapers(x, "scrape under;");
        Checks.tray(x, 0, 0, 9, 9, 9, 9, 9);
        x.weights(false, 0);
        return x;
    }

    private static void image() {
        C.promise(49);
        RedHands x = full();
        C.fails("IMAGE 3", Checks.NSE, () -> x.image(3));
        C.fails("IMAGE -1", Checks.NSE, () -> x.image(-1));
        x.image(2);
        x.paint(0, 0, 0);
        x.image(2);
        x.image(1);
        x.paint(0, 0, 0);
        x.restore(2);
        C.due("an IMAGE made anew", x.count(0), 3);
    }

    private static void restore() {
        C.promise(50);
        RedHands x = full();
        C.fails("IMAGE 3", Checks.NSE, () -> x.restore(3));
        C.fails("IMAGE -1", Checks.NSE, () -> x.restore(-1));
        C.fails("none was made", Checks.ISE, () -> x.restore(0));
        x.bent(0, 1);
        C.fraction("weights", x, 9, 10);
        x.image(0);
        x.paint(1, 0, 0);
        x.over(2, 1);
        x.fingers(0, 50, 52, 55, 55, 5);
        x.skin(0, 1, 2, 1);
        x.layer(0, 300, 1000, 0);
        x.told(1, 50, 52, 55, 55, 55);
        Checks.law(x, "rate 50; near 3; thin 1; dirt 1 to 2; leak 3;");
        Checks.stories(x, "people 3 in 0 to 400; people 3 in 0 to 1; beast 3 in 0 to 0;");
        Checks.scrapers(x, "scrape over if hand or beast; scrape beside; scrape over;");
        Checks.tray(x, 0, 0, 7, 7, 7, 7, 7);
        x.weights(false, 0);
        x.image(1);
        x.restore(0);
        restored(x, 2, 2, 1, 1, 2, 2, 1, 20);
        x.bent(0, 1);
        C.fraction("weights as they were", x, 9, 10);
        x.restore(1);
        restored(x, 3, 3, 2, 2, 5, 3, 3, 52);
        x.bent(0, 4);
        C.fraction("weights as they were later", x, 7, 8);
        C.fails("IMAGE 2", Checks.ISE, () -> x.restore(2));
        restoreLeaves(x);
    }

    /** What is there of PAINTS, SKINS, ORDER, TOLD HANDS, LINES of both, RULES, and how long an index is. */
    private static void restored(RedHands x, int... all) {
        int[] counts = {0, 1, 2, 3, 4, 5, 14};
        for (int i = 0; i < counts.length; i++) {
            C.due("count(" + counts[i] + ")", x.count(counts[i]), all[i]);
        }
        C.due("an index", x.of(0, 4), all[7]);
    }

    /** The tape, the FAULT, the FRACTION and TRAYS are not of an IMAGE. */
    private static void restoreLeaves(RedHands x) {
        x.restore(0);
        x.many(1);
        C.due("a FAULT", Checks.law(x, "rate;"), -12);
        x.feed(1, 2, 3, 4, 5);
        Checks.tray(x, 1, 0, 4, 4, 4, 4, 4);
        x.restore(1);
        C.fraction("the FRACTION stays", x, 1, 5);
        C.due("the FAULT stays", x.fault(0), 2);
        C.due("its place", x.fault(1), 4);
        C.due("the tape stays", x.count(6), 20);
        C.due("TRAYS stay", x.weights(true, 1), true);
        x.restore(0);
        C.due("IMAGES stay", x.count(14), 1);
        x.restore(1);
        C.due("IMAGES stay too", x.count(14), 3);
    }

    private static void count() {
        C.promise(51);
        RedHands x = full();
        Checks.law(x, "rate 11; dirt 21 to 61; thin 51; off 4; leak 12; near 7;");
        x.feed(1, 2, 3, 4, 5);
        int[] all = {2, 2, 1, 1, 6, 2, 20, 11, 21, 61, 51, 4, 12, 7, 1};
        for (int i = 0; i < all.length; i++) {
            C.due("count(" + i + ")", x.count(i), all[i]);
        }
        C.due("LAYERS of SKIN 0", x.count(100), 1);
        C.due("LAYERS of SKIN 1", x.count(101), 0);
        for (int what : new int[] {-1, 15, 99, 102, 130, Integer.MAX_VALUE, Integer.MIN_VALUE}) {
            C.due("count(" + what + ")", x.count(what), RedHands.NONE);
        }
    }
}
