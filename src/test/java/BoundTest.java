/** Promises 20 to 28: bounds, clashes, rings, on what it rests, FRACTIONS of OLDER and MANY. */
public final class BoundTest {
    private static final Checks C = new Checks("BoundTest");
    private static final int OVER = 1;
    private static final int UNDER = 2;

    public static void main(String[] args) {
        bound();
        boundInRings();
        clash();
        ring();
        above();
        rests();
        older();
        olderByFive();
        many();
        fractions();
        C.end();
    }

    /** So many discs of one CAVE, by the law "off 0;". */
    private static RedHands discs(int many) {
        RedHands x = new RedHands();
        for (int i = 0; i < many; i++) {
            x.paint(1, 0, 0);
        }
        Checks.law(x, "off 0;");
        return x;
    }

    private static void bounds(RedHands x, int paint, int least, int most) {
        C.due("LEAST of " + paint, x.bound(paint, false), least);
        C.due("MOST of " + paint, x.bound(paint, true), most);
    }

    private static void bound() {
        C.promise(20);
        RedHands x = discs(4);
        bounds(x, 0, 0, 400);
        int old = Checks.aged(x, OVER, 0, 30);
        C.due("it is so old", x.says(old), 30);
        bounds(x, 0, 30, 400);
        Checks.aged(x, OVER, 0, 20);
        bounds(x, 0, 30, 400);
        Checks.aged(x, UNDER, 0, 90);
        bounds(x, 0, 30, 90);
        Checks.aged(x, UNDER, 0, 95);
        bounds(x, 0, 30, 90);
        // 1 lies over 0, 0 over 2, 2 over 3
        x.over(1, 0);
        x.over(0, 2);
        x.over(2, 3);
        bounds(x, 1, 0, 90);
        bounds(x, 2, 30, 400);
        bounds(x, 3, 30, 400);
        Checks.aged(x, OVER, 1, 40);
        bounds(x, 3, 40, 400);
        Checks.aged(x, UNDER, 3, 70);
        bounds(x, 1, 40, 70);
        bounds(x, 0, 40, 70);
        Checks.aged(x, 0, 0, 50);
        bounds(x, 0, 40, 70);
        int turned = x.skin(0, OVER, 0, 1);
        x.layer(turned, Checks.countFor(100), 9999, 0);
        bounds(x, 0, 100, 70);
        x.layer(turned, Checks.countFor(60), 9999, 0);
        C.due("TURNED", x.sort(turned), 2);
        bounds(x, 0, 40, 70);
        C.fails("no PAINT", Checks.NSE, () -> x.bound(4, true));
        C.fails("PAINT -1", Checks.NSE, () -> x.bound(-1, false));
    }

    private static void boundInRings() {
        RedHands x = discs(5);
        x.over(0, 1);
        x.over(1, 2);
        x.over(2, 0);
        x.over(3, 0);
        x.over(2, 4);
        Checks.aged(x, OVER, 1, 25);
        Checks.aged(x, UNDER, 2, 60);
        for (int paint = 0; paint < 3; paint++) {
            bounds(x, paint, 25, 60);
        }
        bounds(x, 3, 0, 60);
        bounds(x, 4, 25, 400);
    }

    private static void clash() {
        C.promise(21);
        RedHands x = discs(6);
        Checks.aged(x, OVER, 1, 50);
        Checks.aged(x, UNDER, 1, 50);
        C.due("LEAST is MOST", x.clash(RedHands.NONE), 0);
        Checks.aged(x, OVER, 1, 51);
        C.due("LEAST is above MOST", x.clash(RedHands.NONE), 1);
        C.due("the first", x.clash(0), 1);
        // 5 lies over 4, below which there is a young SKIN, above 5 an old one
        x.over(5, 4);
        Checks.aged(x, UNDER, 4, 10);
        Checks.aged(x, OVER, 5, 20);
        C.due("three", x.clash(RedHands.NONE), 3);
        C.due("1st", x.clash(0), 1);
        C.due("2nd", x.clash(1), 4);
        C.due("3rd", x.clash(2), 5);
        C.due("not so many", x.clash(3), RedHands.NONE);
        C.due("-2", x.clash(-2), RedHands.NONE);
        C.due("far", x.clash(Integer.MAX_VALUE), RedHands.NONE);
        Checks.aged(x, OVER, 0, 2);
        Checks.aged(x, UNDER, 0, 1);
        C.due("the first of four", x.clash(0), 0);
        C.due("the last of four", x.clash(3), 5);
    }

    private static void ring() {
        C.promise(22);
        RedHands x = discs(6);
        x.over(0, 1);
        x.over(1, 2);
        x.over(2, 3);
        C.due("no RING", x.ring(1), false);
        x.over(3, 1);
        C.due("above it", x.ring(0), false);
        C.due("in it, 1", x.ring(1), true);
        C.due("in it, 2", x.ring(2), true);
        C.due("in it, 3", x.ring(3), true);
        x.over(3, 4);
        C.due("below it", x.ring(4), false);
        C.due("alone", x.ring(5), false);
        C.fails("no PAINT", Checks.NSE, () -> x.ring(6));
        C.fails("PAINT -1", Checks.NSE, () -> x.ring(-1));
    }

    private static void above() {
        C.promise(23);
        RedHands x = discs(5);
        x.over(3, 1);
        x.over(1, 4);
        x.over(4, 0);
        C.due("as told", x.above(3, 1), true);
        C.due("on and on", x.above(3, 0), true);
        C.due("the other way", x.above(0, 3), false);
        C.due("not at all", x.above(2, 0), false);
        C.due("itself", x.above(1, 1), false);
        x.over(0, 3);
        C.due("itself in a RING", x.above(1, 1), true);
        C.due("the other way in a RING", x.above(0, 4), true);
        C.fails("no upper", Checks.NSE, () -> x.above(5, 0));
        C.fails("no lower", Checks.NSE, () -> x.above(0, -1));
    }

    private static void rests() {
        C.promise(24);
        RedHands x = discs(3);
        x.over(1, 0);
        x.over(0, 2);
        C.due("on nothing", x.rests(0), 0);
        Checks.aged(x, OVER, 0, 20);
        C.due("on one", x.rests(0), 1);
        Checks.aged(x, OVER, 1, 30);
        C.due("on the older one", x.rests(0), 1);
        C.due("so does the upper", x.rests(1), 1);
        Checks.aged(x, UNDER, 2, 90);
        C.due("and on one below", x.rests(0), 2);
        Checks.aged(x, OVER, 0, 30);
        C.due("two like ones: on neither", x.rests(0), 1);
        Checks.aged(x, UNDER, 0, 90);
        C.due("two like ones below", x.rests(0), 0);
        C.due("the lowest on one, below", x.rests(2), 1);
        RedHands y = discs(1);
        Checks.aged(y, OVER, 0, 0);
        Checks.aged(y, UNDER, 0, 400);
        C.due("SKINS that bound nothing", y.rests(0), 0);
        C.fails("no PAINT", Checks.NSE, () -> x.rests(3));
        C.fails("PAINT -1", Checks.NSE, () -> x.rests(-1));
    }

    private static void older() {
        C.promise(25);
        RedHands x = discs(3);
        x.over(1, 0);
        x.older(0, 1);
        C.fraction("without any", x, 0, 1);
        Checks.aged(x, OVER, 0, 20);
        x.older(0, 20);
        C.fraction("one of 20", x, 9, 10);
        x.older(0, 21);
        C.fraction("above it", x, 0, 1);
        Checks.aged(x, OVER, 1, 30);
        Checks.aged(x, UNDER, 0, 300);
        Checks.aged(x, UNDER, 1, 300);
        Checks.aged(x, 0, 1, 300);
        Checks.aged(x, OVER, 2, 300);
        x.older(0, 20);
        C.fraction("two", x, 99, 100);
        x.older(0, 30);
        C.fraction("one of an upper PAINT", x, 9, 10);
        x.older(1, 20);
        C.fraction("the lower one's is not its own", x, 9, 10);
        x.layer(1, Checks.countFor(60), 9999, 0);
        x.older(1, 60);
        C.fraction("a SKIN of two", x, 18, 19);
        C.fails("no PAINT", Checks.NSE, () -> x.older(3, 0));
        C.fails("t 0", Checks.IAE, () -> x.older(0, 0));
        C.fails("t 401", Checks.IAE, () -> x.older(0, 401));
    }

    /** Only the five that SAY most count; of like ones those with the least numbers. */
    private static void olderByFive() {
        RedHands x = discs(1);
        int young = Checks.aged(x, OVER, 0, 10);
        for (int i = 0; i < 4; i++) {
            Checks.aged(x, OVER, 0, 40 + i);
        }
        int one = Checks.aged(x, OVER, 0, 20);
        int two = Checks.aged(x, OVER, 0, 20);
        x.layer(two, 0, 10, 0);
        x.layer(young, Checks.countFor(10), 9999, 0);
        x.older(0, 10);
        C.fraction("five of one LAYER", x, 99999, 100000);
        x.skin(0, OVER, 0, 9);
        x.layer(7, Checks.countFor(1), 9999, 0);
        x.layer(7, Checks.countFor(20), 9999, 0);
        C.due("three SAY 20", x.says(7) == 20 && x.says(one) == 20 && x.says(two) == 20, true);
        x.older(0, 10);
        C.fraction("a like one of a higher number", x, 99999, 100000);
        x.layer(one, Checks.countFor(20), 9999, 0);
        x.older(0, 10);
        C.fraction("the one of the least number", x, 189999, 190000);
        RedHands y = discs(1);
        Checks.law(y, "off 0;leak 1;");
        for (int i = 0; i < 6; i++) {
            int skin = Checks.aged(y, OVER, 0, 10);
            for (int k = 0; k < 3; k++) {
                y.layer(skin, Checks.countFor(11 + k), 9999, 0);
            }
        }
        y.older(0, 1);
        long all = 2377L * 2377 * 2377 * 2377 * 2377;
        C.fraction("five of four LAYERS", y, all - 1, all);
    }

    private static void many() {
        C.promise(26);
        RedHands x = new RedHands();
        x.many(1);
        C.fraction("1", x, 1, 10);
        x.many(3);
        C.fraction("3", x, 271, 1000);
        x.many(9);
        C.fraction("9", x, 612579511, 1000000000);
        Checks.law(x, "leak 1;");
        x.many(9);
        // 99 nine times by itself is 913517247483640899
        C.fraction("9 by leak 1", x, 1000000000000000000L - 913517247483640899L, 1000000000000000000L);
        Checks.law(x, "leak 50;");
        x.many(2);
        C.fraction("2 by leak 50", x, 3, 4);
        C.fails("n 0", Checks.IAE, () -> x.many(0));
        C.fails("n 10", Checks.IAE, () -> x.many(10));
    }

    private static void fractions() {
        C.promise(27);
        RedHands x = new RedHands();
        C.due("upper without", x.upper(), 0);
        x.many(2);
        C.due("upper", x.upper(), 19);
        C.due("upper again", x.upper(), 19);
        x.paint(0, 0, 0);
        C.due("a FRACTION of 0 over 0", x.whose(0, 0), false);
        C.due("upper of it", x.upper(), 0);
        C.promise(28);
        C.due("lower of it", x.lower(), 0);
        x.many(2);
        C.due("lower", x.lower(), 100);
        x.older(0, 5);
        C.due("lower of 0", x.lower(), 1);
        C.due("lower without", new RedHands().lower(), 0);
    }
}
