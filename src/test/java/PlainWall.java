import java.math.BigInteger;
import java.util.ArrayList;
import java.util.Arrays;
import java.util.Comparator;
import java.util.List;
import java.util.NoSuchElementException;
import java.util.TreeSet;

/**
 * The document said once more, as plainly and slowly as can be: texts are kept as texts and read anew each time,
 * bounds are spread until nothing changes, every set is tried. FuzzTest holds RedHands against it.
 */
final class PlainWall {
    static final int NONE = -1;

    static final class Paint {
        int kind;
        int cave;
        int what;
        int[] five = new int[5];

        Paint copy() {
            Paint p = new Paint();
            p.kind = kind;
            p.cave = cave;
            p.what = what;
            p.five = five.clone();
            return p;
        }
    }

    static final class Skin {
        int cave;
        int lies;
        int paint;
        int grains;
        List<int[]> layers = new ArrayList<>();

        Skin copy() {
            Skin s = new Skin();
            s.cave = cave;
            s.lies = lies;
            s.paint = paint;
            s.grains = grains;
            s.layers = new ArrayList<>(layers);
            return s;
        }
    }

    static final class State {
        List<Paint> paints = new ArrayList<>();
        List<int[]> order = new ArrayList<>();
        List<Skin> skins = new ArrayList<>();
        List<int[]> told = new ArrayList<>();
        String law = "";
        String stories = "";
        String scrapers = "";
        int[] bent = {1, 1, 1, 1, 1};
        int[] gone = {1, 1, 1, 1, 1};

        State copy() {
            State s = new State();
            for (Paint p : paints) {
                s.paints.add(p.copy());
            }
            s.order.addAll(order);
            for (Skin k : skins) {
                s.skins.add(k.copy());
            }
            s.told.addAll(told);
            s.law = law;
            s.stories = stories;
            s.scrapers = scrapers;
            s.bent = bent.clone();
            s.gone = gone.clone();
            return s;
        }
    }

    private State now = new State();
    private final State[] images = new State[3];
    private final StringBuilder tape = new StringBuilder();
    private int fault = 0;
    private int place = NONE;
    private BigInteger up = BigInteger.ZERO;
    private BigInteger low = BigInteger.ZERO;
    private final long[][] trays = new long[4][];
    private final int[] traySorts = new int[4];

    PlainWall() {
    }

    // ---- asks

    private static void number(boolean good) {
        if (!good) {
            throw new IllegalArgumentException();
        }
    }

    private static boolean in(long v, long a, long b) {
        return a <= v && v <= b;
    }

    private Paint paintAt(int i) {
        if (!in(i, 0, now.paints.size() - 1)) {
            throw new NoSuchElementException();
        }
        return now.paints.get(i);
    }

    private Paint handAt(int i) {
        Paint p = paintAt(i);
        if (p.kind != 0) {
            throw new IllegalStateException();
        }
        return p;
    }

    private Skin skinAt(int i) {
        if (!in(i, 0, now.skins.size() - 1)) {
            throw new NoSuchElementException();
        }
        return now.skins.get(i);
    }

    private long[] trayAt(int i) {
        if (!in(i, 0, 3)) {
            throw new NoSuchElementException();
        }
        if (trays[i] == null) {
            throw new IllegalStateException();
        }
        return trays[i];
    }

    private boolean fraction(BigInteger a, BigInteger b) {
        if (b.signum() == 0) {
            up = BigInteger.ZERO;
            low = BigInteger.ZERO;
            return false;
        }
        BigInteger g = a.gcd(b);
        up = a.divide(g);
        low = b.divide(g);
        return true;
    }

    private boolean fraction(long a, long b) {
        return fraction(BigInteger.valueOf(a), BigInteger.valueOf(b));
    }

    // ---- paints, skins

    public int paint(int kind, int cave, int what) {
        number(in(kind, 0, 3) && in(cave, 0, 5) && in(what, 0, 9));
        if (now.paints.size() == 30) {
            return NONE;
        }
        Paint p = new Paint();
        p.kind = kind;
        p.cave = cave;
        p.what = what;
        now.paints.add(p);
        return now.paints.size() - 1;
    }

    public void fingers(int paint, int a, int b, int c, int d, int e) {
        Paint p = handAt(paint);
        int[] five = {a, b, c, d, e};
        for (int v : five) {
            number(in(v, 0, 99));
        }
        p.five = five;
    }

    public boolean over(int upper, int lower) {
        Paint u = paintAt(upper);
        Paint l = paintAt(lower);
        number(upper != lower && u.cave == l.cave);
        for (int[] o : now.order) {
            if (o[0] == upper && o[1] == lower || o[0] == lower && o[1] == upper) {
                return false;
            }
        }
        if (now.order.size() == 40) {
            return false;
        }
        now.order.add(new int[] {upper, lower});
        return true;
    }

    public int skin(int cave, int lies, int paint, int grains) {
        Paint p = lies == 1 || lies == 2 ? paintAt(paint) : null;
        number(in(cave, 0, 5) && in(lies, 0, 2) && in(grains, 1, 99));
        number(p == null || p.cave == cave);
        if (now.skins.size() == 30) {
            return NONE;
        }
        Skin s = new Skin();
        s.cave = cave;
        s.lies = lies;
        s.paint = p == null ? NONE : paint;
        s.grains = grains;
        now.skins.add(s);
        return now.skins.size() - 1;
    }

    public int layer(int skin, int a, int b, int d) {
        Skin s = skinAt(skin);
        number(in(a, 0, 9999) && in(b, 0, 9999) && in(d, 0, 9999));
        if (s.layers.size() == 4) {
            return NONE;
        }
        s.layers.add(new int[] {a, b, d});
        return s.layers.size();
    }

    public int of(int paint, int what) {
        Paint p = paintAt(paint);
        number(in(what, 0, 8));
        if (what == 8) {
            int n = 0;
            for (int[] o : now.order) {
                n += o[1] == paint ? 1 : 0;
            }
            return n;
        }
        int[] all = {p.kind, p.cave, p.what, p.five[0], p.five[1], p.five[2], p.five[3], p.five[4]};
        return all[what];
    }

    // ---- texts

    static final class Fault extends RuntimeException {
        private static final long serialVersionUID = 1L;
        final int kind;
        final int place;

        Fault(int kind, int place) {
            this.kind = kind;
            this.place = place;
        }
    }

    static final class Token {
        final String s;
        final int place;
        final boolean bad;

        Token(String s, int place, boolean bad) {
            this.s = s;
            this.place = place;
            this.bad = bad;
        }
    }

    static List<Token> tokens(String text) {
        List<Token> list = new ArrayList<>();
        java.util.regex.Matcher m = java.util.regex.Pattern.compile("[a-z]+|[0-9]+|[ \\n]+|[\\x00-\\xff]").matcher(text);
        while (m.find()) {
            String s = m.group();
            if (!s.matches("[ \\n]+")) {
                list.add(new Token(s, m.start(), !s.matches("[a-z]+|[0-9]{1,3}|[;()]")));
            }
        }
        list.add(new Token("", text.length(), false));
        return list;
    }

    static final class Parse {
        final List<Token> list;
        int i = 0;

        Parse(String text) {
            list = tokens(text);
        }

        Token here() {
            return list.get(i);
        }

        boolean at(String s) {
            return !here().bad && here().s.equals(s);
        }

        boolean done() {
            return i == list.size() - 1;
        }

        String one(String... words) {
            for (String w : words) {
                if (at(w)) {
                    i++;
                    return w;
                }
            }
            throw new Fault(here().bad ? 1 : 2, here().place);
        }

        int n(int a, int b) {
            Token t = here();
            if (t.bad) {
                throw new Fault(1, t.place);
            }
            if (!t.s.matches("[0-9]+")) {
                throw new Fault(2, t.place);
            }
            int v = Integer.parseInt(t.s);
            if (v < a || v > b) {
                throw new Fault(3, t.place);
            }
            i++;
            return v;
        }

        String begin(int lines, String... words) {
            int p = here().place;
            String w = one(words);
            if (lines == 12) {
                throw new Fault(4, p);
            }
            return w;
        }
    }

    /** rate, dirt, dirt, thin, off, leak, near, LINES. */
    static int[] readLaw(String text) {
        int[] v = {10, 20, 60, 50, 5, 10, 6, 0};
        Parse p = new Parse(text);
        while (!p.done()) {
            String w = p.begin(v[7], "rate", "dirt", "thin", "off", "leak", "near");
            if (w.equals("rate")) {
                v[0] = p.n(1, 99);
            } else if (w.equals("dirt")) {
                v[1] = p.n(0, 99);
                p.one("to");
                v[2] = p.n(v[1], 99);
            } else if (w.equals("thin")) {
                v[3] = p.n(0, 999);
            } else if (w.equals("off")) {
                v[4] = p.n(0, 50);
            } else if (w.equals("leak")) {
                v[5] = p.n(1, 99);
            } else {
                v[6] = p.n(0, 50);
            }
            p.one(";");
            v[7]++;
        }
        return v;
    }

    /** Rows of: 0 beast or 1 people, its number, from, to. */
    static List<int[]> readStories(String text) {
        List<int[]> rows = new ArrayList<>();
        Parse p = new Parse(text);
        while (!p.done()) {
            boolean beast = p.begin(rows.size(), "beast", "people").equals("beast");
            int[] row = new int[4];
            row[0] = beast ? 0 : 1;
            row[1] = p.n(0, beast ? 9 : 5);
            p.one("in");
            row[2] = p.n(0, 400);
            p.one("to");
            row[3] = p.n(row[2], 400);
            p.one(";");
            rows.add(row);
        }
        return rows;
    }

    interface Test {
        boolean holds(int skin, List<Integer> row);
    }

    static final class Rule {
        int lies;
        Test test;
    }

    private List<Rule> readScrapers(String text) {
        List<Rule> rules = new ArrayList<>();
        Parse p = new Parse(text);
        while (!p.done()) {
            p.begin(rules.size(), "scrape");
            Rule r = new Rule();
            r.lies = Arrays.asList("beside", "over", "under").indexOf(p.one("over", "under", "beside"));
            r.test = (skin, row) -> true;
            if (p.one("if", ";").equals("if")) {
                r.test = test(p, 0);
                p.one(";");
            }
            rules.add(r);
        }
        return rules;
    }

    private Test test(Parse p, int open) {
        Test all = part(p, open);
        while (p.at("or")) {
            p.i++;
            Test left = all;
            Test right = part(p, open);
            all = (skin, row) -> left.holds(skin, row) || right.holds(skin, row);
        }
        return all;
    }

    private Test part(Parse p, int open) {
        Test all = fact(p, open);
        while (p.at("and")) {
            p.i++;
            Test left = all;
            Test right = fact(p, open);
            all = (skin, row) -> left.holds(skin, row) && right.holds(skin, row);
        }
        return all;
    }

    private Test fact(Parse p, int open) {
        int at = p.here().place;
        String w = p.one("not", "(", "cheap", "cave", "hand", "disc", "beast", "sign", "bare", "open");
        if (w.equals("not") || w.equals("(")) {
            if (open == 8) {
                throw new Fault(5, at);
            }
            if (w.equals("not")) {
                Test inner = fact(p, open + 1);
                return (skin, row) -> !inner.holds(skin, row);
            }
            Test inner = test(p, open + 1);
            p.one(")");
            return inner;
        }
        if (w.equals("cheap")) {
            int n = p.n(1, 99);
            return (skin, row) -> now.skins.get(skin).grains <= n;
        }
        if (w.equals("cave")) {
            int n = p.n(0, 5);
            return (skin, row) -> now.skins.get(skin).cave == n;
        }
        int kind = Arrays.asList("hand", "disc", "beast", "sign").indexOf(w);
        return (skin, row) -> {
            Skin s = now.skins.get(skin);
            if (s.lies == 0) {
                return false;
            }
            if (kind >= 0) {
                return now.paints.get(s.paint).kind == kind;
            }
            if (w.equals("open")) {
                return bounds(NONE)[0][s.paint] == 0 && bounds(NONE)[1][s.paint] == 400;
            }
            for (int i = 0; i < now.skins.size(); i++) {
                Skin o = now.skins.get(i);
                if (o.lies != 0 && o.paint == s.paint && (!o.layers.isEmpty() || row.contains(i))) {
                    return false;
                }
            }
            return true;
        };
    }

    public int feed(int a, int b, int c, int d, int e) {
        if (tape.length() + 20 > 400) {
            return NONE;
        }
        for (int v : new int[] {a, b, c, d, e}) {
            for (byte x : java.nio.ByteBuffer.allocate(4).putInt(v).array()) {
                tape.append((char) (x & 255));
            }
        }
        return tape.length();
    }

    private String cutTape(int n) {
        number(in(n, 0, tape.length()));
        String s = tape.substring(0, n);
        tape.setLength(0);
        fault = 0;
        place = NONE;
        return s;
    }

    private int refuse(Fault f) {
        fault = f.kind;
        place = f.place;
        return -10 - f.kind;
    }

    public int law(int n) {
        String s = cutTape(n);
        try {
            int lines = readLaw(s)[7];
            now.law = s;
            return lines;
        } catch (Fault f) {
            return refuse(f);
        }
    }

    public int stories(int n) {
        String s = cutTape(n);
        try {
            int lines = readStories(s).size();
            now.stories = s;
            return lines;
        } catch (Fault f) {
            return refuse(f);
        }
    }

    public int scrapers(int n) {
        String s = cutTape(n);
        try {
            int rules = readScrapers(s).size();
            now.scrapers = s;
            return rules;
        } catch (Fault f) {
            return refuse(f);
        }
    }

    public int fault(int what) {
        return what == 0 ? fault : what == 1 ? place : NONE;
    }

    // ---- the clock

    private String readText = "";
    private int[] readValues = readLaw("");

    /** The law is read anew when its text changes: reading it at each step of the clock takes too long. */
    private int lawOf(int i) {
        if (!readText.equals(now.law)) {
            readText = now.law;
            readValues = readLaw(now.law);
        }
        return readValues[i];
    }

    private static long grow(long g, long b, long rate) {
        long more = (1000 * b - g) * rate / 1000;
        return g + (more < 0 ? 0 : more);
    }

    private int clock(long a, long b, long d, long s) {
        long rate = lawOf(0);
        long g = 10 * d * s;
        int times = 0;
        while (g < 1000 * a && times < 400) {
            g = grow(g, b, rate);
            times++;
        }
        return times;
    }

    private int span(int[] layer, boolean most) {
        if (layer[1] < lawOf(3)) {
            return NONE;
        }
        return most ? clock(layer[0] * (100 + lawOf(4)) / 100, layer[1], layer[2], lawOf(1))
                : clock(layer[0] * (100 - lawOf(4)) / 100, layer[1], layer[2], lawOf(2));
    }

    public int age(int a, int b, int d, int share) {
        number(in(a, 0, 9999) && in(b, 0, 9999) && in(d, 0, 9999) && in(share, 0, 99));
        return clock(a, b, d, share);
    }

    public int span(int skin, int layer, boolean most) {
        Skin s = skinAt(skin);
        if (!in(layer, 0, s.layers.size() - 1)) {
            throw new NoSuchElementException();
        }
        return span(s.layers.get(layer), most);
    }

    private List<int[]> thick(Skin s) {
        List<int[]> list = new ArrayList<>();
        for (int[] layer : s.layers) {
            if (layer[1] >= lawOf(3)) {
                list.add(layer);
            }
        }
        return list;
    }

    public int sort(int skin) {
        Skin s = skinAt(skin);
        if (s.layers.isEmpty()) {
            return 0;
        }
        List<int[]> thick = thick(s);
        if (thick.isEmpty()) {
            return 1;
        }
        for (int i = 0; i < thick.size(); i++) {
            for (int j = i + 1; j < thick.size(); j++) {
                if (span(thick.get(i), false) > span(thick.get(j), true)) {
                    return 2;
                }
            }
        }
        return 3 + s.lies;
    }

    public int says(int skin) {
        int sort = sort(skin);
        List<int[]> thick = thick(now.skins.get(skin));
        if (sort == 4) {
            return span(thick.get(thick.size() - 1), false);
        }
        return sort == 5 ? span(thick.get(0), true) : NONE;
    }

    private BigInteger[] leak(int skin) {
        int sort = sort(skin);
        long leak = lawOf(5);
        if (sort < 2) {
            return new BigInteger[] {BigInteger.valueOf(leak), BigInteger.valueOf(100)};
        }
        if (sort == 2) {
            return new BigInteger[] {BigInteger.ONE, BigInteger.ONE};
        }
        long ways = new long[] {1, 1, 2, 6, 24}[thick(now.skins.get(skin)).size()];
        return new BigInteger[] {BigInteger.valueOf(leak), BigInteger.valueOf(leak + (100 - leak) * ways)};
    }

    public void leaked(int skin) {
        skinAt(skin);
        BigInteger[] leak = leak(skin);
        fraction(leak[0], leak[1]);
    }

    private int dripped(int age, int b, int d, int share, int seed) {
        long g = 10L * d * share;
        for (int i = 0; i < age; i++) {
            g = grow(g, b, lawOf(0));
        }
        long a = g / 1000;
        long e = a * lawOf(4) / 100;
        int x = seed * 1103515245 + 12345;
        long v = a - e + (x >>> 16) % (2 * e + 1);
        return (int) Math.max(0, Math.min(9999, v));
    }

    public int drip(int skin, int age, int b, int d, int share, int seed) {
        Skin s = skinAt(skin);
        number(in(age, 0, 400) && in(b, 0, 9999) && in(d, 0, 9999) && in(share, 0, 99));
        if (s.layers.size() == 4) {
            return NONE;
        }
        int a = dripped(age, b, d, share, seed);
        s.layers.add(new int[] {a, b, d});
        return a;
    }

    public int trial(int age, int b, int d, int share, int n) {
        number(in(age, 0, 400) && in(b, 0, 9999) && in(d, 0, 9999) && in(share, 0, 99) && in(n, 1, 100));
        int good = 0;
        for (int seed = 1; seed <= n; seed++) {
            int[] layer = {dripped(age, b, d, share, seed), b, d};
            int least = span(layer, false);
            good += least != NONE && least <= age && age <= span(layer, true) ? 1 : 0;
        }
        return good;
    }

    // ---- bounds

    /** LEAST and MOST of all PAINTS, without a SKIN. */
    private int[][] bounds(int without) {
        int n = now.paints.size();
        int[] least = new int[n];
        int[] most = new int[n];
        Arrays.fill(most, 400);
        for (int i = 0; i < now.skins.size(); i++) {
            Skin s = now.skins.get(i);
            int says = says(i);
            if (i != without && says != NONE) {
                if (s.lies == 1) {
                    least[s.paint] = Math.max(least[s.paint], says);
                } else {
                    most[s.paint] = Math.min(most[s.paint], says);
                }
            }
        }
        for (int i = 0; i < n; i++) {
            for (int[] o : now.order) {
                least[o[1]] = Math.max(least[o[1]], least[o[0]]);
                most[o[0]] = Math.min(most[o[0]], most[o[1]]);
            }
        }
        return new int[][] {least, most};
    }

    private boolean[][] above() {
        int n = now.paints.size();
        boolean[][] lies = new boolean[n][n];
        for (int[] o : now.order) {
            lies[o[0]][o[1]] = true;
        }
        for (int k = 0; k < n; k++) {
            for (int i = 0; i < n; i++) {
                for (int j = 0; j < n; j++) {
                    lies[i][j] |= lies[i][k] && lies[k][j];
                }
            }
        }
        return lies;
    }

    public int bound(int paint, boolean most) {
        paintAt(paint);
        return bounds(NONE)[most ? 1 : 0][paint];
    }

    public int clash(int i) {
        int[][] b = bounds(NONE);
        List<Integer> list = new ArrayList<>();
        for (int p = 0; p < now.paints.size(); p++) {
            if (b[0][p] > b[1][p]) {
                list.add(p);
            }
        }
        return i == NONE ? list.size() : in(i, 0, list.size() - 1) ? list.get(i) : NONE;
    }

    public boolean ring(int paint) {
        paintAt(paint);
        return above()[paint][paint];
    }

    public boolean above(int upper, int lower) {
        paintAt(upper);
        paintAt(lower);
        return above()[upper][lower];
    }

    public int rests(int paint) {
        paintAt(paint);
        int[][] all = bounds(NONE);
        int n = 0;
        for (int i = 0; i < now.skins.size(); i++) {
            int[][] b = bounds(i);
            n += b[0][paint] != all[0][paint] || b[1][paint] != all[1][paint] ? 1 : 0;
        }
        return n;
    }

    public void older(int paint, int t) {
        paintAt(paint);
        number(in(t, 1, 400));
        List<int[]> list = new ArrayList<>();
        for (int i = 0; i < now.skins.size(); i++) {
            Skin s = now.skins.get(i);
            if (s.lies == 1 && (s.paint == paint || above()[s.paint][paint]) && says(i) >= t) {
                list.add(new int[] {i, says(i)});
            }
        }
        list.sort(Comparator.comparingInt(x -> -x[1]));
        BigInteger a = BigInteger.ONE;
        BigInteger b = BigInteger.ONE;
        for (int i = 0; i < Math.min(5, list.size()); i++) {
            BigInteger[] leak = leak(list.get(i)[0]);
            a = a.multiply(leak[0]);
            b = b.multiply(leak[1]);
        }
        fraction(b.subtract(a), b);
    }

    public void many(int n) {
        number(in(n, 1, 9));
        BigInteger all = BigInteger.valueOf(100).pow(n);
        fraction(all.subtract(BigInteger.valueOf(100 - lawOf(5)).pow(n)), all);
    }

    public long upper() {
        return up.longValueExact();
    }

    public long lower() {
        return low.longValueExact();
    }

    // ---- hands

    public int told(int sort, int a, int b, int c, int d, int e) {
        int[] v = {a, b, c, d, e, sort};
        for (int i = 0; i < 5; i++) {
            number(in(v[i], 1, 99));
        }
        number(in(sort, 0, 3));
        if (now.told.size() == 40) {
            return NONE;
        }
        now.told.add(v);
        return now.told.size();
    }

    private List<int[]> likes(Paint p, int but) {
        List<int[]> list = new ArrayList<>();
        for (int[] hand : now.told) {
            boolean like = true;
            for (int f = 0; f < 5; f++) {
                like &= f == but || p.five[f] == 0 || Math.abs(p.five[f] - hand[f]) <= lawOf(6);
            }
            if (like) {
                list.add(hand);
            }
        }
        return list;
    }

    private static long ofSort(List<int[]> hands, int sort) {
        return hands.stream().filter(h -> h[5] == sort).count();
    }

    public int like(int paint, int finger) {
        Paint p = handAt(paint);
        number(in(finger, NONE, 4));
        return likes(p, finger).size();
    }

    public boolean whose(int paint, int sort) {
        Paint p = handAt(paint);
        number(in(sort, 0, 3));
        // parts over 40!, so that each is a whole number
        BigInteger whole = BigInteger.ONE;
        for (int i = 2; i <= 40; i++) {
            whole = whole.multiply(BigInteger.valueOf(i));
        }
        BigInteger sum = BigInteger.ZERO;
        BigInteger mine = BigInteger.ZERO;
        for (int s = 0; s < 4; s++) {
            long n = ofSort(now.told, s);
            if (n > 0) {
                BigInteger part = whole.multiply(BigInteger.valueOf(ofSort(likes(p, NONE), s))).divide(BigInteger.valueOf(n));
                sum = sum.add(part);
                mine = s == sort ? part : mine;
            }
        }
        return ofSort(now.told, sort) == 0 ? fraction(0, 0) : fraction(mine, sum);
    }

    public boolean ringed(int paint, int sort) {
        Paint p = handAt(paint);
        number(in(sort, 0, 3));
        if (p.five[1] == 0 || p.five[3] == 0) {
            return fraction(0, 0);
        }
        long n = now.told.stream().filter(h -> h[5] == sort)
                .filter(h -> Math.signum(h[3] - h[1]) == Math.signum(p.five[3] - p.five[1])).count();
        return fraction(n, ofSort(now.told, sort));
    }

    public int due(int paint, int finger) {
        Paint p = handAt(paint);
        number(in(finger, 0, 4));
        List<int[]> likes = likes(p, finger);
        return likes.isEmpty() ? NONE : likes.stream().mapToInt(h -> h[finger]).sum() / likes.size();
    }

    public int stumps(int paint) {
        Paint p = handAt(paint);
        int bits = 0;
        for (int f = 0; f < 5; f++) {
            bits += due(paint, f) != NONE && 2 * p.five[f] < due(paint, f) ? 1 << f : 0;
        }
        return bits;
    }

    public boolean bent(int paint, int finger) {
        Paint p = handAt(paint);
        number(in(finger, 0, 4));
        if ((stumps(paint) & 1 << finger) == 0) {
            return fraction(0, 0);
        }
        int part = 10 * p.five[finger] / due(paint, finger);
        return fraction(now.bent[part], now.bent[part] + now.gone[part]);
    }

    public boolean weights(boolean gone, int tray) {
        long[] row = trayAt(tray);
        if (row.length != 5) {
            return false;
        }
        for (long v : row) {
            if (!in(v, 0, 99)) {
                return false;
            }
        }
        for (int i = 0; i < 5; i++) {
            (gone ? now.gone : now.bent)[i] = (int) row[i];
        }
        return true;
    }

    // ---- when, who, where next

    private TreeSet<Integer> times(int paint) {
        Paint p = paintAt(paint);
        int[][] b = bounds(NONE);
        TreeSet<Integer> set = new TreeSet<>();
        for (int t = b[0][paint]; t <= b[1][paint]; t++) {
            if (p.kind != 2 || there(0, p.what, t)) {
                set.add(t);
            }
        }
        return set;
    }

    private String toldText = "";
    private List<int[]> toldRows = new ArrayList<>();

    private boolean there(int what, int number, int t) {
        if (!toldText.equals(now.stories)) {
            toldText = now.stories;
            toldRows = readStories(now.stories);
        }
        for (int[] row : toldRows) {
            if (row[0] == what && row[1] == number && in(t, row[2], row[3])) {
                return true;
            }
        }
        return false;
    }

    public int times(int paint, int what) {
        TreeSet<Integer> set = times(paint);
        number(in(what, 0, 2));
        if (what == 0) {
            return set.size();
        }
        return set.isEmpty() ? NONE : what == 1 ? set.first() : set.last();
    }

    public boolean who(int paint, int people) {
        TreeSet<Integer> set = times(paint);
        number(in(people, 0, 5));
        long mine = 0;
        long all = 0;
        for (int q = 0; q < 6; q++) {
            for (int t : set) {
                if (there(1, q, t)) {
                    all++;
                    mine += q == people ? 1 : 0;
                }
            }
        }
        return fraction(mine, all);
    }

    public int alone(int paint, int people) {
        TreeSet<Integer> set = times(paint);
        number(in(people, 0, 5));
        int n = 0;
        for (int t : set) {
            boolean only = there(1, people, t);
            for (int q = 0; q < 6; q++) {
                only &= q == people || !there(1, q, t);
            }
            n += only ? 1 : 0;
        }
        return n;
    }

    public int spread(int what) {
        number(in(what, 0, 9));
        TreeSet<Integer> caves = new TreeSet<>();
        for (Paint p : now.paints) {
            if (p.kind == 3 && p.what == what) {
                caves.add(p.cave);
            }
        }
        return caves.size();
    }

    public int first(int what) {
        number(in(what, 0, 9));
        int[] least = bounds(NONE)[0];
        int best = NONE;
        for (int i = now.paints.size() - 1; i >= 0; i--) {
            Paint p = now.paints.get(i);
            if (p.kind == 3 && p.what == what && (best == NONE || least[i] >= least[best])) {
                best = i;
            }
        }
        return best;
    }

    private int reached(int skins) {
        TreeSet<Integer> paints = new TreeSet<>();
        for (int i = 0; i < now.skins.size(); i++) {
            Skin s = now.skins.get(i);
            if (s.lies != 0 && (!s.layers.isEmpty() || (skins >> i & 1) == 1)) {
                paints.add(s.paint);
            }
        }
        return paints.size();
    }

    private int grainsOf(int skins) {
        int n = 0;
        for (int i = 0; i < now.skins.size(); i++) {
            n += (skins >> i & 1) == 1 ? now.skins.get(i).grains : 0;
        }
        return n;
    }

    private int planned(int grains) {
        List<Integer> free = new ArrayList<>();
        for (int i = 0; i < now.skins.size() && free.size() < 12; i++) {
            if (now.skins.get(i).lies != 0 && now.skins.get(i).layers.isEmpty()) {
                free.add(i);
            }
        }
        int best = 0;
        for (int choice = 0; choice < 1 << free.size(); choice++) {
            int set = 0;
            for (int k = 0; k < free.size(); k++) {
                set |= (choice >> k & 1) << free.get(k);
            }
            int more = reached(set) - reached(best);
            int fewer = grainsOf(best) - grainsOf(set);
            if (grainsOf(set) <= grains && (more > 0 || more == 0 && (fewer > 0 || fewer == 0 && set < best))) {
                best = set;
            }
        }
        return best;
    }

    public int plan(int grains, int what) {
        number(in(grains, 0, 999) && in(what, 0, 2));
        int set = planned(grains);
        return what == 0 ? set : what == 1 ? reached(set) : grainsOf(set);
    }

    private List<Integer> followed(int grains) {
        List<Integer> row = new ArrayList<>();
        int left = grains;
        List<Rule> rules = readScrapers(now.scrapers);
        boolean more = true;
        while (more) {
            more = false;
            for (Rule r : rules) {
                int best = NONE;
                for (int i = 0; i < now.skins.size(); i++) {
                    Skin s = now.skins.get(i);
                    if (s.layers.isEmpty() && !row.contains(i) && s.lies == r.lies && s.grains <= left
                            && r.test.holds(i, row) && (best == NONE || s.grains < now.skins.get(best).grains)) {
                        best = i;
                    }
                }
                if (best != NONE) {
                    row.add(best);
                    left -= now.skins.get(best).grains;
                    more = true;
                    break;
                }
            }
        }
        return row;
    }

    public int follow(int grains, int i) {
        number(in(grains, 0, 999));
        List<Integer> row = followed(grains);
        return i == NONE ? row.size() : in(i, 0, row.size() - 1) ? row.get(i) : NONE;
    }

    public int behind(int grains) {
        number(in(grains, 0, 999));
        int set = 0;
        for (int s : followed(grains)) {
            set |= 1 << s;
        }
        return reached(planned(grains)) - reached(set);
    }

    public int say(int paint) {
        paintAt(paint);
        int[][] b = bounds(NONE);
        int least = b[0][paint];
        int most = b[1][paint];
        if (ring(paint)) {
            return 0;
        }
        if (least > most) {
            return 1;
        }
        if (least == 0 && most == 400) {
            return 2;
        }
        int latest = NONE;
        for (int[] row : readStories(now.stories)) {
            latest = row[0] == 1 ? Math.max(latest, row[3]) : latest;
        }
        if (latest != NONE && least > latest) {
            return 3;
        }
        int times = times(paint, 0);
        for (int q = 0; q < 6; q++) {
            if (times > 0 && alone(paint, q) == times) {
                return 4;
            }
        }
        return least > 0 && most < 400 ? 5 : least > 0 ? 6 : 7;
    }

    // ---- trays, images

    public void tray(int tray, int sort, int many) {
        if (!in(tray, 0, 3)) {
            throw new NoSuchElementException();
        }
        number(in(sort, 0, 3) && in(many, 0, 40));
        trays[tray] = new long[many];
        traySorts[tray] = sort;
    }

    public long write(int tray, int place, long v) {
        long[] row = trayAt(tray);
        if (!in(place, 0, row.length - 1)) {
            throw new IndexOutOfBoundsException();
        }
        int lost = 64 - (8 << traySorts[tray]);
        row[place] = v << lost >> lost;
        return row[place];
    }

    public int pour(int skin, int tray) {
        Skin s = skinAt(skin);
        long[] row = trayAt(tray);
        if (row.length % 3 != 0) {
            throw new IndexOutOfBoundsException();
        }
        for (long v : row) {
            number(in(v, 0, 9999));
        }
        if (s.layers.size() + row.length / 3 > 4) {
            return NONE;
        }
        for (int i = 0; i < row.length; i += 3) {
            s.layers.add(new int[] {(int) row[i], (int) row[i + 1], (int) row[i + 2]});
        }
        return row.length / 3;
    }

    public void image(int i) {
        if (!in(i, 0, 2)) {
            throw new NoSuchElementException();
        }
        images[i] = now.copy();
    }

    public void restore(int i) {
        if (!in(i, 0, 2)) {
            throw new NoSuchElementException();
        }
        if (images[i] == null) {
            throw new IllegalStateException();
        }
        now = images[i].copy();
    }

    public int count(int what) {
        if (in(what, 100, 100 + now.skins.size() - 1)) {
            return now.skins.get(what - 100).layers.size();
        }
        int[] v = readLaw(now.law);
        int[] all = {now.paints.size(), now.skins.size(), now.order.size(), now.told.size(), v[7],
            readStories(now.stories).size(), tape.length(), v[0], v[1], v[2], v[3], v[4], v[5], v[6],
            readScrapers(now.scrapers).size()};
        return in(what, 0, 14) ? all[what] : NONE;
    }
}
