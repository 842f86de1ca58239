/** Promises 29 to 36: TOLD HANDS, whose hand it is, STUMPS and their weights. */
public final class HandTest {
    private static final Checks C = new Checks("HandTest");

    public static void main(String[] args) {
        told();
        like();
        whose();
        ringed();
        due();
        stumps();
        bent();
        weights();
        C.end();
    }

    /** PAINT 0 is a hand of these fingers, 1 a disc. */
    private static RedHands hand(int a, int b, int c, int d, int e) {
        RedHands x = new RedHands();
        x.paint(0, 0, 0);
        x.paint(1, 0, 0);
        x.fingers(0, a, b, c, d, e);
        return x;
    }

    private interface OfPaint {
        void call(int paint, int other);
    }

    /** No such PAINT, no hand, and these others, of which none is there. */
    private static void asks(RedHands x, OfPaint call, int... others) {
        C.fails("no PAINT", Checks.NSE, () -> call.call(2, 99));
        C.fails("PAINT -1", Checks.NSE, () -> call.call(-1, 0));
        C.fails("no hand", Checks.ISE, () -> call.call(1, 99));
        for (int other : others) {
            C.fails("no such " + other, Checks.IAE, () -> call.call(0, other));
        }
    }

    private static void told() {
        C.promise(29);
        RedHands x = hand(0, 0, 0, 0, 0);
        C.fails("SORT 4", Checks.IAE, () -> x.told(4, 1, 1, 1, 1, 1));
        C.fails("SORT -1", Checks.IAE, () -> x.told(-1, 1, 1, 1, 1, 1));
        C.fails("thumb 0", Checks.IAE, () -> x.told(0, 0, 1, 1, 1, 1));
        C.fails("index 100", Checks.IAE, () -> x.told(0, 1, 100, 1, 1, 1));
        C.fails("middle 0", Checks.IAE, () -> x.told(0, 1, 1, 0, 1, 1));
        C.fails("ring 100", Checks.IAE, () -> x.told(0, 1, 1, 1, 100, 1));
        C.fails("little 0", Checks.IAE, () -> x.told(0, 1, 1, 1, 1, 0));
        for (int i = 1; i <= 40; i++) {
            C.due("told " + i, x.told(i % 4, 1, 2, 3, 99, i), i);
        }
        C.due("a 41st", x.told(0, 1, 1, 1, 1, 1), RedHands.NONE);
        C.fails("a 41st of a number", Checks.IAE, () -> x.told(0, 1, 1, 1, 1, 0));
    }

    private static void like() {
        C.promise(30);
        RedHands x = hand(50, 60, 70, 0, 40);
        C.due("none told", x.like(0, RedHands.NONE), 0);
        x.told(0, 56, 54, 76, 1, 34);
        C.due("by 6 all over", x.like(0, RedHands.NONE), 1);
        x.told(3, 57, 60, 70, 1, 40);
        C.due("a thumb by 7", x.like(0, RedHands.NONE), 1);
        C.due("but for the thumb", x.like(0, 0), 2);
        C.due("but for the index", x.like(0, 1), 1);
        x.told(1, 57, 60, 70, 1, 47);
        C.due("two by 7, but for one", x.like(0, 4), 1);
        Checks.law(x, "near 7;");
        C.due("near 7", x.like(0, RedHands.NONE), 3);
        Checks.law(x, "near 0;");
        C.due("near 0", x.like(0, RedHands.NONE), 0);
        x.fingers(0, 0, 0, 0, 0, 0);
        C.due("no finger is there", x.like(0, RedHands.NONE), 3);
        asks(x, x::like, -2, 5);
    }

    private static void whose() {
        C.promise(31);
        RedHands x = hand(50, 50, 50, 50, 50);
        C.due("none told", x.whose(0, 0), false);
        C.fraction("none told", x, 0, 0);
        x.told(1, 90, 90, 90, 90, 90);
        C.due("none is LIKE it", x.whose(0, 1), false);
        // SORT 0: 1 of 1; 1: 1 of 3; 2: 0 of 2
        x.told(0, 50, 50, 50, 50, 50);
        x.told(1, 50, 50, 50, 50, 51);
        x.told(1, 50, 50, 50, 50, 60);
        x.told(2, 50, 50, 60, 50, 50);
        x.told(2, 50, 50, 60, 50, 50);
        C.due("SORT 0", x.whose(0, 0), true);
        C.fraction("1 by 4 thirds", x, 3, 4);
        C.due("SORT 1", x.whose(0, 1), true);
        C.fraction("a third by 4 thirds", x, 1, 4);
        C.due("SORT 2", x.whose(0, 2), true);
        C.fraction("nothing by 4 thirds", x, 0, 1);
        C.due("SORT 3 has none", x.whose(0, 3), false);
        C.fraction("SORT 3 has none", x, 0, 0);
        RedHands y = hand(0, 0, 0, 0, 0);
        for (int i = 0; i < 40; i++) {
            y.told(i < 37 ? 0 : i - 36, 1, 1, 1, 1, 1);
        }
        C.due("all are LIKE it", y.whose(0, 0), true);
        C.fraction("a quarter", y, 1, 4);
        asks(x, x::whose, -1, 4);
    }

    private static void ringed() {
        C.promise(32);
        RedHands x = hand(0, 60, 0, 61, 0);
        C.due("none told", x.ringed(0, 0), false);
        C.fraction("none told", x, 0, 0);
        x.told(0, 9, 40, 9, 45, 9);
        x.told(0, 9, 40, 9, 40, 9);
        x.told(0, 9, 40, 9, 39, 9);
        x.told(0, 9, 40, 9, 99, 9);
        x.told(1, 9, 40, 9, 39, 9);
        C.due("longer", x.ringed(0, 0), true);
        C.fraction("longer: 2 of 4", x, 1, 2);
        C.due("longer, SORT 1", x.ringed(0, 1), true);
        C.fraction("longer: 0 of 1", x, 0, 1);
        C.due("SORT 2", x.ringed(0, 2), false);
        C.fraction("SORT 2 has none", x, 0, 0);
        C.due("SORT 3", x.ringed(0, 3), false);
        x.fingers(0, 0, 60, 0, 60, 0);
        x.ringed(0, 0);
        C.fraction("as long: 1 of 4", x, 1, 4);
        x.fingers(0, 0, 60, 0, 1, 0);
        x.ringed(0, 1);
        C.fraction("shorter: 1 of 1", x, 1, 1);
        x.fingers(0, 0, 60, 0, 0, 0);
        C.due("no ring finger", x.ringed(0, 0), false);
        x.fingers(0, 0, 0, 0, 60, 0);
        C.due("no index", x.ringed(0, 0), false);
        C.fraction("no index", x, 0, 0);
        asks(x, x::ringed, -1, 4);
    }

    private static void due() {
        C.promise(33);
        RedHands x = hand(50, 20, 50, 50, 50);
        C.due("none told", x.due(0, 1), RedHands.NONE);
        x.told(0, 50, 61, 50, 50, 50);
        x.told(3, 50, 64, 50, 50, 50);
        x.told(3, 90, 99, 50, 50, 50);
        C.due("the mean, cut", x.due(0, 1), 62);
        C.due("none is LIKE it but for the thumb", x.due(0, 0), RedHands.NONE);
        x.told(1, 50, 64, 50, 50, 50);
        C.due("of three", x.due(0, 1), 63);
        x.fingers(0, 50, 60, 50, 50, 0);
        C.due("the little one", x.due(0, 4), 50);
        asks(x, x::due, -1, 5);
    }

    private static void stumps() {
        C.promise(34);
        RedHands x = hand(50, 30, 50, 50, 50);
        C.due("none told", x.stumps(0), 0);
        x.told(0, 50, 60, 50, 50, 50);
        C.due("just half", x.stumps(0), 0);
        x.fingers(0, 50, 29, 50, 50, 50);
        C.due("below half", x.stumps(0), 2);
        x.fingers(0, 50, 60, 50, 50, 0);
        C.due("one that is not there", x.stumps(0), 16);
        x.fingers(0, 0, 0, 0, 0, 0);
        C.due("no finger is there", x.stumps(0), 31);
        x.fingers(0, 1, 1, 50, 50, 50);
        C.due("of two none is LIKE it but for the other", x.stumps(0), 0);
        asks(x, (paint, other) -> x.stumps(paint));
    }

    private static void bent() {
        C.promise(35);
        RedHands x = hand(50, 29, 50, 50, 50);
        Checks.tray(x, 0, 0, 1, 2, 3, 4, 5);
        x.weights(false, 0);
        Checks.tray(x, 0, 0, 0, 0, 9, 9, 3);
        x.weights(true, 0);
        C.due("no DUE", x.bent(0, 1), false);
        C.fraction("no DUE", x, 0, 0);
        x.told(0, 50, 60, 50, 50, 50);
        C.due("29 of 60", x.bent(0, 1), true);
        C.fraction("PART 4", x, 5, 8);
        C.due("no STUMP", x.bent(0, 0), false);
        C.fraction("no STUMP", x, 0, 0);
        x.fingers(0, 50, 60, 50, 50, 0);
        C.due("0 of 50", x.bent(0, 4), true);
        C.fraction("PART 0", x, 1, 1);
        x.fingers(0, 50, 18, 50, 50, 50);
        x.bent(0, 1);
        C.fraction("18 of 60: PART 3", x, 4, 13);
        x.fingers(0, 50, 17, 50, 50, 50);
        x.bent(0, 1);
        C.fraction("17 of 60: PART 2", x, 1, 4);
        Checks.tray(x, 0, 0, 0, 0, 0, 0, 0);
        x.weights(false, 0);
        C.due("of no weight", x.bent(0, 1), true);
        C.fraction("0 of 9", x, 0, 1);
        x.weights(true, 0);
        C.due("both are 0", x.bent(0, 1), false);
        C.fraction("both are 0", x, 0, 0);
        asks(x, x::bent, -1, 5);
    }

    private static void weights() {
        C.promise(36);
        RedHands x = hand(0, 0, 0, 0, 0);
        x.told(0, 10, 20, 30, 40, 50);
        C.fails("TRAY 4", Checks.NSE, () -> x.weights(true, 4));
        C.fails("TRAY -1", Checks.NSE, () -> x.weights(false, -1));
        C.fails("MISSING", Checks.ISE, () -> x.weights(false, 2));
        for (int part = 0; part < 5; part++) {
            RedHands y = hand(50, 50, 50, 50, 10 * part);
            y.told(0, 50, 50, 50, 50, 99);
            y.bent(0, 4);
            C.fraction("1 each at first, PART " + part, y, 1, 2);
        }
        long[][] bad = {{1, 2, 3, 4}, {1, 2, 3, 4, 5, 6}, {}, {3, 1, 1, 1, 100}, {3, -1, 1, 1, 1}, {1L << 32, 1, 1, 1, 1}};
        for (long[] row : bad) {
            Checks.tray(x, 1, 3, row);
            C.due("weights that aren't", x.weights(false, 1), false);
            C.due("weights that aren't, of GONE", x.weights(true, 1), false);
        }
        x.bent(0, 0);
        C.fraction("1 each still", x, 1, 2);
        Checks.tray(x, 1, 1, 99, 0, 0, 0, 0);
        C.due("BENT", x.weights(false, 1), true);
        x.bent(0, 0);
        C.fraction("99 of 100", x, 99, 100);
        Checks.tray(x, 1, 1, 0, 99, 0, 0, 0);
        x.bent(0, 0);
        C.fraction("the TRAY is another thing then", x, 99, 100);
        C.due("GONE", x.weights(true, 1), true);
        x.bent(0, 0);
        C.fraction("all of it", x, 1, 1);
    }
}
