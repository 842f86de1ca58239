import java.util.NoSuchElementException;

/** What the tests share: counting wrong answers, feeding texts. */
final class Checks {
    static final Class<?> NSE = NoSuchElementException.class;
    static final Class<?> ISE = IllegalStateException.class;
    static final Class<?> IAE = IllegalArgumentException.class;
    static final Class<?> IOB = IndexOutOfBoundsException.class;

    interface Call {
        void run();
    }

    private final String name;
    private int promise;
    private int right;
    private int wrong;

    Checks(String name) {
        this.name = name;
    }

    void promise(int n) {
        promise = n;
    }

    void due(String what, long got, long want) {
        if (got == want) {
            right++;
        } else {
            wrong++;
            System.out.println(name + ", promise " + promise + ": " + what + " answered " + got + ", due is " + want);
        }
    }

    void due(String what, boolean got, boolean want) {
        due(what, got ? 1 : 0, want ? 1 : 0);
    }

    void fraction(String what, RedHands x, long upper, long lower) {
        due(what + ", upper", x.upper(), upper);
        due(what + ", lower", x.lower(), lower);
    }

    /** The call must throw just this. (That it changes nothing is seen by EdgeTest, on walls made for it.) */
    void fails(String what, Class<?> type, Call call) {
        Class<?> thrown = null;
        try {
            call.run();
        } catch (RuntimeException e) {
            thrown = e.getClass();
        }
        if (thrown != type) {
            wrong++;
            System.out.println(name + ", promise " + promise + ": " + what + " threw " + thrown + ", due is " + type);
        } else {
            right++;
        }
    }

    /** The text goes on the tape, with blanks behind it: how long it is. */
    static int feed(RedHands x, String text) {
        StringBuilder s = new StringBuilder(text);
        while (s.length() % 20 != 0) {
            s.append(' ');
        }
        for (int i = 0; i < s.length(); i += 20) {
            int[] v = new int[5];
            for (int k = 0; k < 20; k++) {
                v[k / 4] = v[k / 4] << 8 | s.charAt(i + k);
            }
            x.feed(v[0], v[1], v[2], v[3], v[4]);
        }
        return text.length();
    }

    static int law(RedHands x, String text) {
        return x.law(feed(x, text));
    }

    static int stories(RedHands x, String text) {
        return x.stories(feed(x, text));
    }

    static int scrapers(RedHands x, String text) {
        return x.scrapers(feed(x, text));
    }

    /** A SKIN more that lies so on a PAINT, with one LAYER that is just so old by the law "off 0;". */
    static int aged(RedHands x, int lies, int paint, int age) {
        int skin = x.skin(x.of(paint, 1), lies, paint, 9);
        x.layer(skin, countFor(age), 9999, 0);
        return skin;
    }

    /** The count a of an age, by b 9999, no dirt and rate 10. */
    static int countFor(int age) {
        int g = 0;
        for (int i = 0; i < age; i++) {
            g += (9999000 - g) / 100;
        }
        return g / 1000;
    }

    /** A TRAY of these numbers. */
    static void tray(RedHands x, int tray, int sort, long... numbers) {
        x.tray(tray, sort, numbers.length);
        for (int i = 0; i < numbers.length; i++) {
            x.write(tray, i, numbers[i]);
        }
    }

    void end() {
        System.out.println(name + ": " + right + " answers are as due, " + wrong + " are not");
        if (wrong != 0) {
            System.exit(1);
        }
    }
}
