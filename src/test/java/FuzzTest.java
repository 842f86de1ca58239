import java.lang.reflect.InvocationTargetException;
import java.lang.reflect.Method;
import java.lang.reflect.Modifier;
import java.util.ArrayList;
import java.util.List;
import java.util.Random;

/** Runs of drawn calls on RedHands and on PlainWall, whose answers must be the same. */
public final class FuzzTest {
    private static final int RUNS = 400;
    private static final int CALLS = 512;
    private static final int NONE = -1;
    private static final List<String> TEXTS = List.of("law", "stories", "scrapers");
    private static final List<String> FRACTIONS =
            List.of("leaked", "older", "many", "whose", "ringed", "bent", "who");
    private static final String[] BUILDING = {"paint", "paint", "paint", "over", "over", "over", "over", "skin", "skin",
        "skin", "layer", "layer", "layer", "drip", "told", "told", "fingers"};
    private static final String[][] FOCUS = {
        {"follow", "plan", "behind", "skin", "layer", "image", "restore"},
        {"like", "whose", "ringed", "due", "stumps", "bent", "told", "fingers", "fingers"},
        {"weights", "tray", "write", "write", "write", "pour", "bent"},
        {"bound", "clash", "ring", "above", "rests", "older", "say", "over", "over"},
        {"times", "who", "alone", "say", "first", "spread"},
        {"sort", "says", "span", "leaked", "drip", "trial", "age", "layer"}};

    private final Random random;
    private final RedHands wall = new RedHands();
    private final PlainWall plain = new PlainWall();
    private final List<String> calls = new ArrayList<>();
    private final int caves;
    private final int badPercent;
    private boolean same = true;

    private FuzzTest(long seed) {
        random = new Random(seed);
        caves = random.nextBoolean() ? 1 : 1 + random.nextInt(6);
        badPercent = random.nextInt(4) == 0 ? 10 : 2;
    }

    public static void main(String[] args) throws Exception {
        int runs = args.length > 0 ? Integer.parseInt(args[0]) : RUNS;
        long first = args.length > 1 ? Long.parseLong(args[1]) : 1;
        for (long seed = first; seed < first + runs; seed++) {
            FuzzTest run = new FuzzTest(seed);
            run.go();
            if (!run.same) {
                System.out.println("run of seed " + seed + " differs:");
                run.calls.forEach(System.out::println);
                System.exit(1);
            }
        }
        System.out.println("FuzzTest: " + runs + " runs are as due");
    }

    private void go() throws Exception {
        List<Method> methods = new ArrayList<>();
        for (Method m : RedHands.class.getDeclaredMethods()) {
            if (Modifier.isPublic(m.getModifiers())) {
                methods.add(m);
            }
        }
        methods.sort((a, b) -> a.getName().compareTo(b.getName()));
        int building = random.nextInt(350);
        String[] focus = FOCUS[random.nextInt(FOCUS.length)];
        while (calls.size() < CALLS && same) {
            if (calls.size() < building && below(8) > 0) {
                callOneOf(BUILDING);
            } else if (below(12) == 0) {
                text();
            } else if (below(2) == 0) {
                callOneOf(focus);
            } else {
                Method m = methods.get(random.nextInt(methods.size()));
                if (!TEXTS.contains(m.getName()) || below(4) == 0) {
                    call(m.getName(), arguments(m));
                }
            }
        }
    }

    private void callOneOf(String[] names) throws Exception {
        String name = names[random.nextInt(names.length)];
        for (Method m : RedHands.class.getDeclaredMethods()) {
            if (m.getName().equals(name)) {
                call(name, arguments(m));
                return;
            }
        }
    }

    private int below(int n) {
        return random.nextInt(n);
    }

    private boolean bad() {
        return below(100) < badPercent;
    }

    private int from(int a, int b) {
        if (bad()) {
            int[] odd = {a - 1, b + 1, Integer.MIN_VALUE, Integer.MAX_VALUE, -7};
            return odd[below(odd.length)];
        }
        int edge = below(10);
        return edge == 0 ? a : edge == 1 ? b : a + below(b - a + 1);
    }

    private int somePaint() {
        return from(0, Math.max(1, plain.count(0)) - 1);
    }

    /** Of five paints drawn the first that is a hand, or the last. */
    private int someHand() {
        int paint = somePaint();
        for (int i = 0; i < 5 && paint >= 0 && paint < plain.count(0) && plain.of(paint, 0) != 0; i++) {
            paint = somePaint();
        }
        return paint;
    }

    private int someSkin() {
        return from(0, Math.max(1, plain.count(1)) - 1);
    }

    private int someLength() {
        int draw = below(6);
        return draw == 0 ? from(0, 99) : draw == 1 ? 0 : draw == 2 ? from(5, 40) : from(45, 60);
    }

    private int someB() {
        return below(8) == 0 ? from(0, 9999) : below(8) == 0 ? from(0, 100) : from(500, 2000);
    }

    private int someD() {
        return below(4) == 0 ? from(0, 9999) : from(0, 300);
    }

    private int someA() {
        return below(6) == 0 ? from(0, 9999) : from(0, 900);
    }

    private Object[] arguments(Method m) {
        switch (m.getName()) {
            case "paint": return row(from(0, 3), from(0, caves - 1), below(3) == 0 ? from(0, 9) : from(0, 2));
            case "fingers": return row(someHand(), someLength(), someLength(), someLength(), someLength(), someLength());
            case "over": return row(somePaint(), somePaint());
            case "skin": return row(from(0, caves - 1), from(0, 2), somePaint(), below(2) == 0 ? from(1, 99) : from(1, 9));
            case "layer": return row(someSkin(), someA(), someB(), someD());
            case "of": return row(somePaint(), from(0, 8));
            case "feed": return row(random.nextInt(), random.nextInt(), random.nextInt(), random.nextInt(), random.nextInt());
            case "law":
            case "stories":
            case "scrapers": return row(from(0, plain.count(6)));
            case "fault": return row(from(-1, 2));
            case "age": return row(someA(), someB(), someD(), from(0, 99));
            case "span": return new Object[] {someSkin(), from(0, 3), random.nextBoolean()};
            case "drip": return row(someSkin(), from(0, 400), someB(), someD(), from(0, 99), random.nextInt());
            case "trial": return row(below(3) == 0 ? from(0, 400) : from(0, 60), someB(), someD(), from(0, 99), from(1, 100));
            case "bound": return new Object[] {somePaint(), random.nextBoolean()};
            case "clash": return row(from(-2, 4));
            case "above": return row(somePaint(), somePaint());
            case "older": return row(somePaint(), below(2) == 0 ? from(1, 400) : from(1, 20));
            case "many": return row(from(1, 9));
            case "told": return row(from(0, 3), told(), told(), told(), told(), told());
            case "like": return row(someHand(), from(-1, 4));
            case "due":
            case "bent": return row(someHand(), from(0, 4));
            case "whose":
            case "ringed": return row(someHand(), from(0, 3));
            case "weights": return new Object[] {random.nextBoolean(), from(0, 3)};
            case "times": return row(somePaint(), from(0, 2));
            case "who":
            case "alone": return row(somePaint(), from(0, 5));
            case "spread":
            case "first": return row(from(0, 9));
            case "plan": return row(someGrains(), from(0, 2));
            case "follow": return row(someGrains(), from(-2, 12));
            case "behind": return row(someGrains());
            case "tray": return row(from(0, 3), from(0, 3), new int[] {5, 3, 6, 9, 12, 15, 0, 40, from(0, 40)}[below(9)]);
            case "write": return new Object[] {from(0, 3), from(0, 6), someLong()};
            case "pour": return row(someSkin(), from(0, 3));
            case "image":
            case "restore": return row(from(0, 2));
            case "count": return row(below(2) == 0 ? from(-1, 15) : from(99, 131));
            case "sort":
            case "says":
            case "leaked": return row(someSkin());
            case "ring":
            case "rests":
            case "say": return row(somePaint());
            case "stumps": return row(someHand());
            case "upper":
            case "lower": return new Object[0];
            default: throw new IllegalStateException("no arguments for " + m.getName());
        }
    }

    private int told() {
        return below(4) == 0 ? from(1, 99) : from(48, 60);
    }

    private int someGrains() {
        return below(3) == 0 ? from(0, 999) : from(0, 60);
    }

    private long someLong() {
        int draw = below(6);
        return draw == 0 ? random.nextLong() : draw == 1 ? from(0, 9999) : draw == 2 ? from(-300, 300) : from(0, 99);
    }

    private static Object[] row(int... v) {
        Object[] all = new Object[v.length];
        for (int i = 0; i < v.length; i++) {
            all[i] = v[i];
        }
        return all;
    }

    // ---- texts by their grammar, some of them spoilt

    private void text() throws Exception {
        String name = new String[] {"law", "stories", "scrapers"}[below(3)];
        int lines = below(12) == 0 ? 10 + below(5) : below(6);
        StringBuilder s = new StringBuilder();
        for (int i = 0; i < lines; i++) {
            s.append(blanks());
            s.append(name.equals("law") ? lawLine() : name.equals("stories") ? storyLine() : rule());
            s.append(blanks()).append(';').append(blanks());
        }
        if (below(5) == 0 && s.length() > 0) {
            spoil(s);
        }
        if (s.length() > 400) {
            s.setLength(400);
        }
        int n = s.length();
        call(name, row(0));
        while (s.length() % 20 != 0) {
            s.append(' ');
        }
        for (int i = 0; i < s.length(); i += 20) {
            int[] v = new int[5];
            for (int k = 0; k < 20; k++) {
                v[k / 4] = v[k / 4] << 8 | s.charAt(i + k);
            }
            call("feed", row(v));
        }
        call(name, row(n));
        call("fault", row(0));
        call("fault", row(1));
        if (name.equals("scrapers")) {
            int grains = someGrains();
            for (int i = NONE; i < 8; i++) {
                call("follow", row(grains, i));
            }
            call("behind", row(grains));
        } else {
            callOneOf(FOCUS[name.equals("law") ? 5 : 4]);
            callOneOf(FOCUS[name.equals("law") ? 5 : 4]);
        }
    }

    private void spoil(StringBuilder s) {
        int at = below(s.length());
        int draw = below(4);
        if (draw == 0) {
            s.deleteCharAt(at);
        } else if (draw == 1) {
            s.setLength(at);
        } else if (draw == 2) {
            s.insert(at, "09;(x) or\u00e9A\t\n".charAt(below(13)));
        } else {
            String[] words = {" not ", " rate ", " 7 ", " ( ", " ) ", " and ", " 1234 ", " if ", " zz "};
            s.insert(at, words[below(words.length)]);
        }
    }

    private String blanks() {
        return new String[] {"", "", "", " ", "\n", "  "}[below(6)];
    }

    private String lawLine() {
        switch (below(6)) {
            case 0: return "rate " + from(1, 99);
            case 1:
                int low = from(0, 99);
                return "dirt " + low + " to " + (below(20) == 0 ? from(0, 99) : low + below(Math.max(1, 100 - Math.min(99, Math.max(0, low)))));
            case 2: return "thin" + from(0, 999);
            case 3: return "off " + from(0, 50);
            case 4: return "leak " + from(1, 99);
            default: return "near " + from(0, 50);
        }
    }

    private String storyLine() {
        boolean beast = random.nextBoolean();
        int low = below(3) == 0 ? from(0, 400) : from(0, 30);
        int wide = below(20) == 0 ? -1 : below(4) == 0 ? 400 - Math.min(400, Math.max(0, low)) : below(12);
        return (beast ? "beast " + from(0, 3) : "people " + from(0, 5)) + " in " + low + " to " + (low + wide);
    }

    private String rule() {
        String kind = new String[] {"over", "under", "beside"}[below(3)];
        return "scrape " + kind + (below(3) == 0 ? "" : " if " + test(below(12) == 0 ? 10 : below(4)));
    }

    private String test(int depth) {
        String s = part(depth);
        return below(3) == 0 ? s + " or " + part(depth) : s;
    }

    private String part(int depth) {
        String s = fact(depth);
        return below(3) == 0 ? s + " and " + fact(depth) : s;
    }

    private String fact(int depth) {
        if (depth > 0 && below(depth > 4 ? 8 : 3) > 0) {
            return random.nextBoolean() ? "not " + fact(depth - 1) : "(" + test(depth - 1) + ")";
        }
        switch (below(4)) {
            case 0: return "cheap " + (below(2) == 0 ? from(1, 99) : from(1, 9));
            case 1: return "cave " + (bad() ? 6 : below(caves));
            default: return new String[] {"hand", "disc", "beast", "sign", "bare", "open"}[below(6)];
        }
    }

    // ---- a call on both

    private void call(String name, Object[] args) throws Exception {
        if (calls.size() >= CALLS || !same) {
            return;
        }
        String got = answer(wall, name, args);
        String want = answer(plain, name, args);
        calls.add(name + java.util.Arrays.toString(args) + " answered " + got);
        if (!got.equals(want)) {
            calls.add("   due is " + want);
            same = false;
        } else if (FRACTIONS.contains(name)) {
            call("upper", new Object[0]);
            call("lower", new Object[0]);
        }
    }

    private static String answer(Object on, String name, Object[] args) throws Exception {
        for (Method m : on.getClass().getDeclaredMethods()) {
            if (m.getName().equals(name) && Modifier.isPublic(m.getModifiers()) && m.getParameterCount() == args.length) {
                m.setAccessible(true);
                try {
                    return String.valueOf(m.invoke(on, args));
                } catch (InvocationTargetException e) {
                    return "throws." + e.getCause().getClass().getSimpleName();
                }
            }
        }
        throw new IllegalStateException("no call " + name);
    }
}
