import java.util.NoSuchElementException;

/** Hands on a wall: paints, skins of drips over and under them, and what may be said of their ages. */
public final class RedHands {
    public static final int NONE = -1;

    private static final int MOST_PAINTS = 30;
    private static final int MOST_ORDER = 40;
    private static final int MOST_SKINS = 30;
    private static final int MOST_LAYERS = 4;
    private static final int MOST_TOLD = 40;
    private static final int MOST_BYTES = 400;
    private static final int MOST_LINES = 12;
    private static final int MOST_NESTED = 8;
    private static final int MOST_DIGITS = 3;
    private static final int MOST_GRAINS = 999;
    private static final int MOST_COUNT = 9999;
    private static final int MOST_AGE = 400;
    private static final int MOST_SHARE = 99;
    private static final int MOST_LENGTH = 99;
    private static final int MOST_PLANNED = 12;
    private static final int MOST_LEAKED = 5;

    private static final int IMAGES = 3;
    private static final int FINGERS = 5;
    private static final int HAND_SORTS = 4;
    private static final int PEOPLES = 6;
    private static final int CAVES = 6;
    private static final int WHATS = 10;
    private static final int PARTS = 5;

    private static final int INDEX = 1;
    private static final int RING = 3;

    private static final int KIND_HAND = 0;
    private static final int KIND_DISC = 1;
    private static final int KIND_BEAST = 2;
    private static final int KIND_SIGN = 3;

    private static final int LIES_BESIDE = 0;
    private static final int LIES_OVER = 1;
    private static final int LIES_UNDER = 2;

    private static final int SORT_EMPTY = 0;
    private static final int SORT_THIN = 1;
    private static final int SORT_TURNED = 2;
    private static final int SORT_BESIDE = 3;
    private static final int SORT_OVER = 4;
    private static final int SORT_UNDER = 5;

    private static final int FAULT_BAD = 1;
    private static final int FAULT_PLACE = 2;
    private static final int FAULT_BOUNDS = 3;
    private static final int FAULT_LINES = 4;
    private static final int FAULT_NESTED = 5;

    private static final int TOKEN_BAD = 0;
    private static final int TOKEN_END = 1;
    private static final int TOKEN_WORD = 2;
    private static final int TOKEN_NUMBER = 3;

    // A word's number is its place here; words that may stand in one place of a TEXT are neighbours.
    private static final String WORDS = "rate dirt thin off leak near to in scrape if beside over under or and not cheap cave hand disc sign bare open beast people ";
    private static final int WORD_RATE = 0;
    private static final int WORD_DIRT = 1;
    private static final int WORD_THIN = 2;
    private static final int WORD_OFF = 3;
    private static final int WORD_LEAK = 4;
    private static final int WORD_NEAR = 5;
    private static final int WORD_TO = 6;
    private static final int WORD_IN = 7;
    private static final int WORD_SCRAPE = 8;
    private static final int WORD_IF = 9;
    private static final int WORD_BESIDE = 10;
    private static final int WORD_UNDER = 12;
    private static final int WORD_OR = 13;
    private static final int WORD_AND = 14;
    private static final int WORD_NOT = 15;
    private static final int WORD_CHEAP = 16;
    private static final int WORD_CAVE = 17;
    private static final int WORD_HAND = 18;
    private static final int WORD_DISC = 19;
    private static final int WORD_SIGN = 20;
    private static final int WORD_BARE = 21;
    private static final int WORD_OPEN = 22;
    private static final int WORD_BEAST = 23;
    private static final int WORD_PEOPLE = 24;

    // A step of a TEST is its word's number times this, and its N.
    private static final int STEP = 1000;

    private final Wall wall = new Wall();
    private final Wall[] images = new Wall[IMAGES];
    private final boolean[] made = new boolean[IMAGES];
    private final Law nextLaw = new Law();
    private final Stories nextStories = new Stories();
    private final Scrapers nextScrapers = new Scrapers();
    private final Text text = new Text();
    private final Fraction fraction = new Fraction();
    private final Trays trays = new Trays();
    private final Search search = new Search();

    public RedHands() {
        for (int i = 0; i < IMAGES; i++) {
            images[i] = new Wall();
        }
    }

    // ---- paints, skins

    public int paint(int kind, int cave, int what) throws IllegalArgumentException {
        askWithin(kind, KIND_HAND, KIND_SIGN);
        askWithin(cave, 0, CAVES - 1);
        askWithin(what, 0, WHATS - 1);
        return wall.paints.add(kind, cave, what);
    }

    public void fingers(int paint, int a, int b, int c, int d, int e)
            throws NoSuchElementException, IllegalStateException, IllegalArgumentException {
        askHand(paint);
        askLengths(0, a, b, c, d, e);
        putFive(wall.paints.five, paint * FINGERS, a, b, c, d, e);
    }

    public boolean over(int upper, int lower) throws NoSuchElementException, IllegalArgumentException {
        askPaint(upper);
        askPaint(lower);
        Paints paints = wall.paints;
        if (upper == lower || paints.cave[upper] != paints.cave[lower]) {
            throw new IllegalArgumentException("not two paints of one cave");
        }
        return paints.layOver(upper, lower);
    }

    public int skin(int cave, int lies, int paint, int grains)
            throws NoSuchElementException, IllegalArgumentException {
        boolean touches = lies == LIES_OVER || lies == LIES_UNDER;
        if (touches) {
            askPaint(paint);
        }
        askWithin(cave, 0, CAVES - 1);
        askWithin(lies, LIES_BESIDE, LIES_UNDER);
        askWithin(grains, 1, 99);
        if (touches && wall.paints.cave[paint] != cave) {
            throw new IllegalArgumentException("the paint is of another cave");
        }
        return wall.skins.add(cave, lies, touches ? paint : 0, grains);
    }

    public int layer(int skin, int a, int b, int d) throws NoSuchElementException, IllegalArgumentException {
        askSkin(skin);
        askWithin(a, 0, MOST_COUNT);
        askWithin(b, 0, MOST_COUNT);
        askWithin(d, 0, MOST_COUNT);
        if (wall.skins.layers[skin] >= MOST_LAYERS) {
            return NONE;
        }
        return wall.skins.addLayer(skin, a, b, d, wall.law);
    }

    public int of(int paint, int what) throws NoSuchElementException, IllegalArgumentException {
        askPaint(paint);
        askWithin(what, 0, 8);
        Paints paints = wall.paints;
        if (what == 0) {
            return paints.kind[paint];
        }
        if (what == 1) {
            return paints.cave[paint];
        }
        if (what == 2) {
            return paints.what[paint];
        }
        return what == 8 ? Integer.bitCount(paints.above[paint]) : paints.five[paint * FINGERS + what - 3];
    }

    // ---- texts

    public int feed(int a, int b, int c, int d, int e) {
        if (text.bytes + 20 > MOST_BYTES) {
            return NONE;
        }
        text.append(a);
        text.append(b);
        text.append(c);
        text.append(d);
        text.append(e);
        return text.bytes;
    }

    public int law(int n) throws IllegalArgumentException {
        askWithin(n, 0, text.bytes);
        text.begin(n);
        nextLaw.readFrom(text);
        if (text.failed()) {
            return -10 - text.fault;
        }
        boolean alike = nextLaw.clocksLike(wall.law);
        wall.law.copyFrom(nextLaw);
        if (!alike) {
            wall.skins.clockAll(wall.law);
        }
        return wall.law.lines;
    }

    public int stories(int n) throws IllegalArgumentException {
        askWithin(n, 0, text.bytes);
        text.begin(n);
        nextStories.readFrom(text);
        if (text.failed()) {
            return -10 - text.fault;
        }
        wall.stories.copyFrom(nextStories);
        return wall.stories.lines;
    }

    public int scrapers(int n) throws IllegalArgumentException {
        askWithin(n, 0, text.bytes);
        text.begin(n);
        nextScrapers.readFrom(text);
        if (text.failed()) {
            return -10 - text.fault;
        }
        wall.scrapers.copyFrom(nextScrapers);
        return wall.scrapers.rules;
    }

    public int fault(int what) {
        if (what == 0) {
            return text.fault;
        }
        return what == 1 ? text.place : NONE;
    }

    // ---- the clock

    public int age(int a, int b, int d, int share) throws IllegalArgumentException {
        askWithin(a, 0, MOST_COUNT);
        askWithin(b, 0, MOST_COUNT);
        askWithin(d, 0, MOST_COUNT);
        askWithin(share, 0, MOST_SHARE);
        return wall.law.ageFor(a, b, d, share);
    }

    public int span(int skin, int layer, boolean most) throws NoSuchElementException {
        askSkin(skin);
        Skins skins = wall.skins;
        if (layer < 0 || layer >= skins.layers[skin]) {
            throw new NoSuchElementException("no such layer");
        }
        int cell = skin * MOST_LAYERS + layer;
        return most ? skins.greatest[cell] : skins.least[cell];
    }

    public int sort(int skin) throws NoSuchElementException {
        askSkin(skin);
        return wall.skins.sorts[skin];
    }

    public int says(int skin) throws NoSuchElementException {
        askSkin(skin);
        return wall.skins.said[skin];
    }

    public void leaked(int skin) throws NoSuchElementException {
        askSkin(skin);
        fraction.put(wall.leakUpper(skin), wall.leakLower(skin));
    }

    public int drip(int skin, int age, int b, int d, int share, int seed)
            throws NoSuchElementException, IllegalArgumentException {
        askSkin(skin);
        askDrip(age, b, d, share);
        if (wall.skins.layers[skin] >= MOST_LAYERS) {
            return NONE;
        }
        int a = wall.law.drawn(wall.law.grownBy(age, b, d, share) / 1000, seed);
        wall.skins.addLayer(skin, a, b, d, wall.law);
        return a;
    }

    public int trial(int age, int b, int d, int share, int n) throws IllegalArgumentException {
        askDrip(age, b, d, share);
        askWithin(n, 1, 100);
        Law law = wall.law;
        if (law.isThin(b)) {
            return 0;
        }
        int grown = law.grownBy(age, b, d, share) / 1000;
        // The clock never runs back, so that what it shows at the age and just before it tells
        // whether an AGE is at most, at least that age, and it needn't run anew for each seed.
        int then = age == MOST_AGE ? law.goalAbove(MOST_COUNT) : law.grownBy(age, b, d, law.dirtHigh);
        int before = age == 0 ? NONE : law.grownBy(age - 1, b, d, law.dirtLow);
        int within = 0;
        for (int seed = 1; seed <= n; seed++) {
            int a = law.drawn(grown, seed);
            if (then >= law.goalBelow(a) && before < law.goalAbove(a)) {
                within++;
            }
        }
        return within;
    }

    // ---- bounds

    public int bound(int paint, boolean most) throws NoSuchElementException {
        askPaint(paint);
        return most ? wall.mostOf(paint) : wall.leastOf(paint);
    }

    public int clash(int i) {
        int clashes = 0;
        for (int paint = 0; paint < wall.paints.size; paint++) {
            if (wall.isClash(paint)) {
                if (clashes == i) {
                    return paint;
                }
                clashes++;
            }
        }
        return i == NONE ? clashes : NONE;
    }

    public boolean ring(int paint) throws NoSuchElementException {
        askPaint(paint);
        return wall.isRing(paint);
    }

    public boolean above(int upper, int lower) throws NoSuchElementException {
        askPaint(upper);
        askPaint(lower);
        return isIn(wall.paints.reach(lower, wall.paints.above), upper);
    }

    public int rests(int paint) throws NoSuchElementException {
        askPaint(paint);
        return wall.restsOf(paint);
    }

    public void older(int paint, int t) throws NoSuchElementException, IllegalArgumentException {
        askPaint(paint);
        askWithin(t, 1, MOST_AGE);
        wall.olderInto(paint, t, fraction);
    }

    public void many(int n) throws IllegalArgumentException {
        askWithin(n, 1, 9);
        long left = 1;
        long all = 1;
        for (int i = 0; i < n; i++) {
            left *= 100 - wall.law.leak;
            all *= 100;
        }
        fraction.put(all - left, all);
    }

    public long upper() {
        return fraction.up;
    }

    public long lower() {
        return fraction.low;
    }

    // ---- hands

    public int told(int sort, int a, int b, int c, int d, int e) throws IllegalArgumentException {
        askWithin(sort, 0, HAND_SORTS - 1);
        askLengths(1, a, b, c, d, e);
        Hands hands = wall.hands;
        if (hands.size >= MOST_TOLD) {
            return NONE;
        }
        hands.sorts[hands.size] = sort;
        putFive(hands.five, hands.size * FINGERS, a, b, c, d, e);
        hands.size++;
        return hands.size;
    }

    public int like(int paint, int finger)
            throws NoSuchElementException, IllegalStateException, IllegalArgumentException {
        askHand(paint);
        askWithin(finger, NONE, FINGERS - 1);
        return wall.likesOf(paint, finger, NONE);
    }

    public boolean whose(int paint, int sort)
            throws NoSuchElementException, IllegalStateException, IllegalArgumentException {
        askHand(paint);
        askWithin(sort, 0, HAND_SORTS - 1);
        return wall.whoseInto(paint, sort, fraction);
    }

    public boolean ringed(int paint, int sort)
            throws NoSuchElementException, IllegalStateException, IllegalArgumentException {
        askHand(paint);
        askWithin(sort, 0, HAND_SORTS - 1);
        return wall.ringedInto(paint, sort, fraction);
    }

    public int due(int paint, int finger)
            throws NoSuchElementException, IllegalStateException, IllegalArgumentException {
        askHand(paint);
        askWithin(finger, 0, FINGERS - 1);
        return wall.dueOf(paint, finger);
    }

    public int stumps(int paint) throws NoSuchElementException, IllegalStateException {
        askHand(paint);
        int bits = 0;
        for (int finger = 0; finger < FINGERS; finger++) {
            if (wall.isStump(paint, finger, wall.dueOf(paint, finger))) {
                bits |= 1 << finger;
            }
        }
        return bits;
    }

    public boolean bent(int paint, int finger)
            throws NoSuchElementException, IllegalStateException, IllegalArgumentException {
        askHand(paint);
        askWithin(finger, 0, FINGERS - 1);
        return wall.bentInto(paint, finger, fraction);
    }

    public boolean weights(boolean gone, int tray) throws NoSuchElementException, IllegalStateException {
        askFilledTray(tray);
        if (trays.many[tray] != PARTS || !trays.allWithin(tray, 0, 99)) {
            return false;
        }
        int[] row = gone ? wall.hands.goneWeights : wall.hands.bentWeights;
        for (int part = 0; part < PARTS; part++) {
            row[part] = trays.numberAt(tray, part);
        }
        return true;
    }

    // ---- when, who, where next

    public int times(int paint, int what) throws NoSuchElementException, IllegalArgumentException {
        askPaint(paint);
        askWithin(what, 0, 2);
        return wall.timesOf(paint, what);
    }

    public boolean who(int paint, int people) throws NoSuchElementException, IllegalArgumentException {
        askPaint(paint);
        askWithin(people, 0, PEOPLES - 1);
        return wall.whoInto(paint, people, fraction);
    }

    public int alone(int paint, int people) throws NoSuchElementException, IllegalArgumentException {
        askPaint(paint);
        askWithin(people, 0, PEOPLES - 1);
        return wall.aloneOf(paint, people);
    }

    public int spread(int what) throws IllegalArgumentException {
        askWithin(what, 0, WHATS - 1);
        int caves = 0;
        for (int paint = 0; paint < wall.paints.size; paint++) {
            if (wall.paints.isSign(paint, what)) {
                caves |= 1 << wall.paints.cave[paint];
            }
        }
        return Integer.bitCount(caves);
    }

    public int first(int what) throws IllegalArgumentException {
        askWithin(what, 0, WHATS - 1);
        int oldest = NONE;
        int age = NONE;
        for (int paint = 0; paint < wall.paints.size; paint++) {
            if (wall.paints.isSign(paint, what)) {
                int least = wall.leastOf(paint);
                if (least > age) {
                    age = least;
                    oldest = paint;
                }
            }
        }
        return oldest;
    }

    public int plan(int grains, int what) throws IllegalArgumentException {
        askWithin(grains, 0, MOST_GRAINS);
        askWithin(what, 0, 2);
        search.makePlan(wall.skins, grains);
        if (what == 0) {
            return search.planned;
        }
        return what == 1 ? search.plannedPaints : search.plannedGrains;
    }

    public int follow(int grains, int i) throws IllegalArgumentException {
        askWithin(grains, 0, MOST_GRAINS);
        search.makeRow(wall, grains);
        if (i == NONE) {
            return search.rowSize;
        }
        return i >= 0 && i < search.rowSize ? search.row[i] : NONE;
    }

    public int behind(int grains) throws IllegalArgumentException {
        askWithin(grains, 0, MOST_GRAINS);
        search.makePlan(wall.skins, grains);
        search.makeRow(wall, grains);
        return search.plannedPaints - Integer.bitCount(search.reached);
    }

    public int say(int paint) throws NoSuchElementException {
        askPaint(paint);
        return wall.sayOf(paint);
    }

    // ---- trays, images

    public void tray(int tray, int sort, int many) throws NoSuchElementException, IllegalArgumentException {
        askTray(tray);
        askWithin(sort, 0, Trays.SORTS - 1);
        askWithin(many, 0, Trays.PLACES);
        trays.clear(tray, sort, many);
    }

    public long write(int tray, int place, long v)
            throws NoSuchElementException, IllegalStateException, IndexOutOfBoundsException {
        askFilledTray(tray);
        if (place < 0 || place >= trays.many[tray]) {
            throw new IndexOutOfBoundsException("no such place");
        }
        return trays.put(tray, place, v);
    }

    public int pour(int skin, int tray) throws NoSuchElementException, IllegalStateException,
            IndexOutOfBoundsException, IllegalArgumentException {
        askSkin(skin);
        askFilledTray(tray);
        int many = trays.many[tray];
        if (many % 3 != 0) {
            throw new IndexOutOfBoundsException("the tray ends within a layer");
        }
        if (!trays.allWithin(tray, 0, MOST_COUNT)) {
            throw new IllegalArgumentException("a count");
        }
        int layers = many / 3;
        if (wall.skins.layers[skin] + layers > MOST_LAYERS) {
            return NONE;
        }
        for (int i = 0; i + 2 < many; i += 3) {
            wall.skins.addLayer(skin, trays.numberAt(tray, i), trays.numberAt(tray, i + 1),
                    trays.numberAt(tray, i + 2), wall.law);
        }
        return layers;
    }

    public void image(int i) throws NoSuchElementException {
        askImage(i);
        Wall image = images[i];
        if (image != null) {
            image.copyFrom(wall);
            made[i] = true;
        }
    }

    public void restore(int i) throws NoSuchElementException, IllegalStateException {
        askImage(i);
        Wall image = images[i];
        if (image == null || !made[i]) {
            throw new IllegalStateException("no such image was made");
        }
        wall.copyFrom(image);
    }

    public int count(int what) {
        if (what >= 100) {
            return what - 100 < wall.skins.size ? wall.skins.layers[what - 100] : NONE;
        }
        switch (what) {
            case 0: return wall.paints.size;
            case 1: return wall.skins.size;
            case 2: return wall.paints.orders;
            case 3: return wall.hands.size;
            case 4: return wall.law.lines;
            case 5: return wall.stories.lines;
            case 6: return text.bytes;
            case 7: return wall.law.rate;
            case 8: return wall.law.dirtLow;
            case 9: return wall.law.dirtHigh;
            case 10: return wall.law.thin;
            case 11: return wall.law.off;
            case 12: return wall.law.leak;
            case 13: return wall.law.near;
            case 14: return wall.scrapers.rules;
            default: return NONE;
        }
    }

    // ---- what calls ask of their arguments

    private static void askWithin(int v, int low, int high) {
        if (v < low || v > high) {
            throw new IllegalArgumentException("a number is out of its bounds");
        }
    }

    private static void askLengths(int low, int a, int b, int c, int d, int e) {
        askWithin(a, low, MOST_LENGTH);
        askWithin(b, low, MOST_LENGTH);
        askWithin(c, low, MOST_LENGTH);
        askWithin(d, low, MOST_LENGTH);
        askWithin(e, low, MOST_LENGTH);
    }

    private static void askDrip(int age, int b, int d, int share) {
        askWithin(age, 0, MOST_AGE);
        askWithin(b, 0, MOST_COUNT);
        askWithin(d, 0, MOST_COUNT);
        askWithin(share, 0, MOST_SHARE);
    }

    private void askPaint(int paint) {
        if (paint < 0 || paint >= wall.paints.size) {
            throw new NoSuchElementException("no such paint");
        }
    }

    private void askHand(int paint) {
        askPaint(paint);
        if (wall.paints.kind[paint] != KIND_HAND) {
            throw new IllegalStateException("it is no hand");
        }
    }

    private void askSkin(int skin) {
        if (skin < 0 || skin >= wall.skins.size) {
            throw new NoSuchElementException("no such skin");
        }
    }

    private static void askTray(int tray) {
        if (tray < 0 || tray >= Trays.TRAYS) {
            throw new NoSuchElementException("no such tray");
        }
    }

    private void askFilledTray(int tray) {
        askTray(tray);
        if (trays.many[tray] == NONE) {
            throw new IllegalStateException("the tray is missing");
        }
    }

    private static void askImage(int i) {
        if (i < 0 || i >= IMAGES) {
            throw new NoSuchElementException("no such image");
        }
    }

    private static void putFive(int[] row, int from, int a, int b, int c, int d, int e) {
        if (from < 0 || from + FINGERS > row.length) {
            return;
        }
        row[from] = a;
        row[from + 1] = b;
        row[from + 2] = c;
        row[from + 3] = d;
        row[from + 4] = e;
    }

    private static boolean isIn(int bits, int i) {
        return (bits >> i & 1) == 1;
    }

    private static void copyRow(int[] from, int[] to) {
        System.arraycopy(from, 0, to, 0, Math.min(from.length, to.length));
    }

    /** All that an image keeps, and what is told of several of its parts at once. */
    private static final class Wall {
        final Paints paints = new Paints();
        final Skins skins = new Skins();
        final Law law = new Law();
        final Stories stories = new Stories();
        final Scrapers scrapers = new Scrapers();
        final Hands hands = new Hands();

        void copyFrom(Wall other) {
            paints.copyFrom(other.paints);
            skins.copyFrom(other.skins);
            law.copyFrom(other.law);
            stories.copyFrom(other.stories);
            scrapers.copyFrom(other.scrapers);
            hands.copyFrom(other.hands);
        }

        int leastOf(int paint) {
            return skins.leastSaid(paints.withAbove(paint), NONE);
        }

        int mostOf(int paint) {
            return skins.mostSaid(paints.withBelow(paint), NONE);
        }

        boolean isClash(int paint) {
            return leastOf(paint) > mostOf(paint);
        }

        boolean isRing(int paint) {
            return isIn(paints.reach(paint, paints.above), paint);
        }

        boolean isOpen(int paint) {
            return leastOf(paint) == 0 && mostOf(paint) == MOST_AGE;
        }

        int restsOf(int paint) {
            int up = paints.withAbove(paint);
            int down = paints.withBelow(paint);
            int least = skins.leastSaid(up, NONE);
            int most = skins.mostSaid(down, NONE);
            int rests = 0;
            for (int skin = 0; skin < skins.size; skin++) {
                if (skins.leastSaid(up, skin) != least || skins.mostSaid(down, skin) != most) {
                    rests++;
                }
            }
            return rests;
        }

        int leakUpper(int skin) {
            return skins.sorts[skin] == SORT_TURNED ? 1 : law.leak;
        }

        int leakLower(int skin) {
            if (skins.sorts[skin] == SORT_TURNED) {
                return 1;
            }
            // without LAYERS, or with THIN ones alone, there is one way: leak by 100
            return law.leak + (100 - law.leak) * skins.waysToLie(skin);
        }

        void olderInto(int paint, int t, Fraction fraction) {
            int up = paints.withAbove(paint);
            int used = 0;
            long leaks = 1;
            long all = 1;
            for (int i = 0; i < MOST_LEAKED; i++) {
                int skin = skins.nextOldest(up, t, used);
                if (skin == NONE) {
                    break;
                }
                used |= 1 << skin;
                leaks *= leakUpper(skin);
                all *= leakLower(skin);
            }
            fraction.put(all - leaks, all);
        }

        int likesOf(int paint, int except, int sort) {
            int likes = 0;
            for (int hand = 0; hand < hands.size; hand++) {
                if ((sort == NONE || hands.sorts[hand] == sort) && isLike(hand, paint, except)) {
                    likes++;
                }
            }
            return likes;
        }

        private boolean isLike(int hand, int paint, int except) {
            for (int finger = 0; finger < FINGERS; finger++) {
                int length = paints.five[paint * FINGERS + finger];
                int away = Math.abs(length - hands.five[hand * FINGERS + finger]);
                if (finger != except && length > 0 && away > law.near) {
                    return false;
                }
            }
            return true;
        }

        boolean whoseInto(int paint, int sort, Fraction fraction) {
            if (hands.ofSort(sort) == 0) {
                return fraction.drop();
            }
            long common = 1;
            for (int other = 0; other < HAND_SORTS; other++) {
                common *= Math.max(1, hands.ofSort(other));
            }
            long mine = 0;
            long all = 0;
            for (int other = 0; other < HAND_SORTS; other++) {
                long part = likesOf(paint, NONE, other) * (common / Math.max(1, hands.ofSort(other)));
                all += part;
                mine = other == sort ? part : mine;
            }
            return fraction.put(mine, all);
        }

        boolean ringedInto(int paint, int sort, Fraction fraction) {
            int index = paints.five[paint * FINGERS + INDEX];
            int ring = paints.five[paint * FINGERS + RING];
            if (index == 0 || ring == 0) {
                return fraction.drop();
            }
            int stands = Integer.compare(ring, index);
            int alike = 0;
            for (int hand = 0; hand < hands.size; hand++) {
                if (hands.sorts[hand] == sort && hands.ringStands(hand) == stands) {
                    alike++;
                }
            }
            return fraction.put(alike, hands.ofSort(sort));
        }

        int dueOf(int paint, int finger) {
            int sum = 0;
            int likes = 0;
            for (int hand = 0; hand < hands.size; hand++) {
                if (isLike(hand, paint, finger)) {
                    sum += hands.five[hand * FINGERS + finger];
                    likes++;
                }
            }
            return likes > 0 ? sum / likes : NONE;
        }

        boolean isStump(int paint, int finger, int due) {
            return 2 * paints.five[paint * FINGERS + finger] < due;
        }

        boolean bentInto(int paint, int finger, Fraction fraction) {
            int due = dueOf(paint, finger);
            if (due <= 0 || !isStump(paint, finger, due)) {
                return fraction.drop();
            }
            int part = 10 * paints.five[paint * FINGERS + finger] / due;
            if (part < 0 || part >= PARTS) {
                return fraction.drop();
            }
            int bent = hands.bentWeights[part];
            return fraction.put(bent, bent + hands.goneWeights[part]);
        }

        private boolean livesAt(int paint, int t) {
            return paints.kind[paint] != KIND_BEAST || stories.tellsBeast(paints.what[paint], t);
        }

        int timesOf(int paint, int what) {
            int most = mostOf(paint);
            int times = 0;
            int earliest = NONE;
            int latest = NONE;
            for (int t = leastOf(paint); t <= most; t++) {
                if (livesAt(paint, t)) {
                    times++;
                    earliest = earliest == NONE ? t : earliest;
                    latest = t;
                }
            }
            if (what == 0) {
                return times;
            }
            return what == 1 ? earliest : latest;
        }

        boolean whoInto(int paint, int people, Fraction fraction) {
            int most = mostOf(paint);
            int mine = 0;
            int all = 0;
            for (int t = leastOf(paint); t <= most; t++) {
                if (livesAt(paint, t)) {
                    int peoples = stories.peoplesAt(t);
                    all += Integer.bitCount(peoples);
                    mine += isIn(peoples, people) ? 1 : 0;
                }
            }
            return fraction.put(mine, all);
        }

        int aloneOf(int paint, int people) {
            int most = mostOf(paint);
            int alone = 0;
            for (int t = leastOf(paint); t <= most; t++) {
                if (livesAt(paint, t) && stories.peoplesAt(t) == 1 << people) {
                    alone++;
                }
            }
            return alone;
        }

        private boolean isOfOnePeople(int paint) {
            int most = mostOf(paint);
            int only = 0;
            for (int t = leastOf(paint); t <= most; t++) {
                if (livesAt(paint, t)) {
                    int peoples = stories.peoplesAt(t);
                    if (Integer.bitCount(peoples) != 1 || only != 0 && peoples != only) {
                        return false;
                    }
                    only = peoples;
                }
            }
            return only != 0;
        }

        int sayOf(int paint) {
            int least = leastOf(paint);
            int most = mostOf(paint);
            if (isRing(paint)) {
                return 0;
            }
            if (least > most) {
                return 1;
            }
            if (least == 0 && most == MOST_AGE) {
                return 2;
            }
            int oldest = stories.oldestPeople();
            if (oldest != NONE && least > oldest) {
                return 3;
            }
            if (isOfOnePeople(paint)) {
                return 4;
            }
            if (least > 0) {
                return most < MOST_AGE ? 5 : 6;
            }
            return 7;
        }
    }

    /** PAINTS and their ORDER; which lie straight above and below a paint is kept as bits. */
    private static final class Paints {
        int size;
        int orders;
        final int[] kind = new int[MOST_PAINTS];
        final int[] cave = new int[MOST_PAINTS];
        final int[] what = new int[MOST_PAINTS];
        final int[] five = new int[MOST_PAINTS * FINGERS];
        final int[] above = new int[MOST_PAINTS];
        final int[] below = new int[MOST_PAINTS];

        void copyFrom(Paints other) {
            size = other.size;
            orders = other.orders;
            copyRow(other.kind, kind);
            copyRow(other.cave, cave);
            copyRow(other.what, what);
            copyRow(other.five, five);
            copyRow(other.above, above);
            copyRow(other.below, below);
        }

        int add(int kindOfIt, int caveOfIt, int whatOfIt) {
            if (size >= MOST_PAINTS) {
                return NONE;
            }
            kind[size] = kindOfIt;
            cave[size] = caveOfIt;
            what[size] = whatOfIt;
            size++;
            return size - 1;
        }

        boolean layOver(int upper, int lower) {
            if (orders >= MOST_ORDER || isIn(above[lower], upper) || isIn(above[upper], lower)) {
                return false;
            }
            above[lower] |= 1 << upper;
            below[upper] |= 1 << lower;
            orders++;
            return true;
        }

        /** The paints to which next leads from a paint, on and on; itself only if it is in a ring. */
        int reach(int paint, int[] next) {
            int seen = 0;
            int open = next[paint];
            for (int i = 0; i < MOST_PAINTS && open != 0; i++) {
                int bit = open & -open;
                int other = Integer.bitCount(bit - 1);
                seen |= bit;
                open = (open | (other < MOST_PAINTS ? next[other] : 0)) & ~seen;
            }
            return seen;
        }

        int withAbove(int paint) {
            return reach(paint, above) | 1 << paint;
        }

        int withBelow(int paint) {
            return reach(paint, below) | 1 << paint;
        }

        boolean isSign(int paint, int whatOfIt) {
            return kind[paint] == KIND_SIGN && what[paint] == whatOfIt;
        }
    }

    /** SKINS and LAYERS; ages, SORTS and what they SAY are kept, as bounds ask for them again and again. */
    private static final class Skins {
        int size;
        final int[] cave = new int[MOST_SKINS];
        final int[] lies = new int[MOST_SKINS];
        final int[] paintOf = new int[MOST_SKINS];
        final int[] grains = new int[MOST_SKINS];
        final int[] layers = new int[MOST_SKINS];
        final int[] sorts = new int[MOST_SKINS];
        final int[] said = new int[MOST_SKINS];
        final int[] a = new int[MOST_SKINS * MOST_LAYERS];
        final int[] b = new int[MOST_SKINS * MOST_LAYERS];
        final int[] d = new int[MOST_SKINS * MOST_LAYERS];
        final int[] least = new int[MOST_SKINS * MOST_LAYERS];
        final int[] greatest = new int[MOST_SKINS * MOST_LAYERS];

        void copyFrom(Skins other) {
            size = other.size;
            copyRow(other.cave, cave);
            copyRow(other.lies, lies);
            copyRow(other.paintOf, paintOf);
            copyRow(other.grains, grains);
            copyRow(other.layers, layers);
            copyRow(other.sorts, sorts);
            copyRow(other.said, said);
            copyRow(other.a, a);
            copyRow(other.b, b);
            copyRow(other.d, d);
            copyRow(other.least, least);
            copyRow(other.greatest, greatest);
        }

        int add(int caveOfIt, int liesSo, int paint, int grainsOfIt) {
            if (size >= MOST_SKINS) {
                return NONE;
            }
            cave[size] = caveOfIt;
            lies[size] = liesSo;
            paintOf[size] = paint;
            grains[size] = grainsOfIt;
            layers[size] = 0;
            sorts[size] = SORT_EMPTY;
            said[size] = NONE;
            size++;
            return size - 1;
        }

        int addLayer(int skin, int countA, int countB, int countD, Law law) {
            int layer = layers[skin];
            if (layer < 0 || layer >= MOST_LAYERS) {
                return NONE;
            }
            int cell = skin * MOST_LAYERS + layer;
            a[cell] = countA;
            b[cell] = countB;
            d[cell] = countD;
            layers[skin]++;
            clockCell(cell, law);
            judge(skin);
            return layers[skin];
        }

        void clockAll(Law law) {
            for (int skin = 0; skin < size; skin++) {
                for (int layer = 0; layer < layers[skin]; layer++) {
                    clockCell(skin * MOST_LAYERS + layer, law);
                }
                judge(skin);
            }
        }

        private void clockCell(int cell, Law law) {
            boolean thin = law.isThin(b[cell]);
            least[cell] = thin ? NONE : law.leastFor(a[cell], b[cell], d[cell]);
            greatest[cell] = thin ? NONE : law.greatestFor(a[cell], b[cell], d[cell]);
        }

        private void judge(int skin) {
            sorts[skin] = sortOf(skin);
            said[skin] = NONE;
            if (sorts[skin] == SORT_OVER) {
                said[skin] = least[innermost(skin)];
            } else if (sorts[skin] == SORT_UNDER) {
                said[skin] = greatest[outermost(skin)];
            }
        }

        private int sortOf(int skin) {
            if (layers[skin] == 0) {
                return SORT_EMPTY;
            }
            if (thick(skin) == 0) {
                return SORT_THIN;
            }
            if (isTurned(skin)) {
                return SORT_TURNED;
            }
            if (lies[skin] == LIES_BESIDE) {
                return SORT_BESIDE;
            }
            return lies[skin] == LIES_OVER ? SORT_OVER : SORT_UNDER;
        }

        private int thick(int skin) {
            int many = 0;
            for (int layer = 0; layer < layers[skin]; layer++) {
                many += least[skin * MOST_LAYERS + layer] != NONE ? 1 : 0;
            }
            return many;
        }

        private boolean isTurned(int skin) {
            int first = skin * MOST_LAYERS;
            int end = first + layers[skin];
            for (int outer = first; outer < end; outer++) {
                for (int inner = outer + 1; inner < end; inner++) {
                    // a thin outer layer's NONE is above nothing, a thin inner one's must be passed over
                    if (greatest[inner] != NONE && least[outer] > greatest[inner]) {
                        return true;
                    }
                }
            }
            return false;
        }

        private int outermost(int skin) {
            int first = skin * MOST_LAYERS;
            for (int cell = first; cell < first + layers[skin]; cell++) {
                if (least[cell] != NONE) {
                    return cell;
                }
            }
            return first;
        }

        private int innermost(int skin) {
            int first = skin * MOST_LAYERS;
            for (int cell = first + layers[skin] - 1; cell > first; cell--) {
                if (least[cell] != NONE) {
                    return cell;
                }
            }
            return first;
        }

        /** n! of the layers that aren't thin. */
        int waysToLie(int skin) {
            int ways = 1;
            int many = thick(skin);
            for (int i = 2; i <= many; i++) {
                ways *= i;
            }
            return ways;
        }

        private boolean speaks(int skin, int liesSo, int paints) {
            return lies[skin] == liesSo && said[skin] != NONE && isIn(paints, paintOf[skin]);
        }

        int leastSaid(int paints, int without) {
            int bound = 0;
            for (int skin = 0; skin < size; skin++) {
                if (skin != without && speaks(skin, LIES_OVER, paints)) {
                    bound = Math.max(bound, said[skin]);
                }
            }
            return bound;
        }

        int mostSaid(int paints, int without) {
            int bound = MOST_AGE;
            for (int skin = 0; skin < size; skin++) {
                if (skin != without && speaks(skin, LIES_UNDER, paints)) {
                    bound = Math.min(bound, said[skin]);
                }
            }
            return bound;
        }

        int nextOldest(int paints, int t, int used) {
            int oldest = NONE;
            for (int skin = 0; skin < size; skin++) {
                if (!isIn(used, skin) && speaks(skin, LIES_OVER, paints) && said[skin] >= t
                        && (oldest == NONE || said[skin] > said[oldest])) {
                    oldest = skin;
                }
            }
            return oldest;
        }

        boolean touches(int skin) {
            return lies[skin] != LIES_BESIDE;
        }

        /** The paints, as bits, that have a skin with layers over or under them. */
        int datedPaints() {
            int paints = 0;
            for (int skin = 0; skin < size; skin++) {
                if (touches(skin) && layers[skin] > 0) {
                    paints |= 1 << paintOf[skin];
                }
            }
            return paints;
        }
    }

    /** THE LAW and the clock that goes by it. */
    private static final class Law {
        int lines;
        int rate;
        int dirtLow;
        int dirtHigh;
        int thin;
        int off;
        int leak;
        int near;

        Law() {
            reset();
        }

        void copyFrom(Law other) {
            lines = other.lines;
            rate = other.rate;
            dirtLow = other.dirtLow;
            dirtHigh = other.dirtHigh;
            thin = other.thin;
            off = other.off;
            leak = other.leak;
            near = other.near;
        }

        private void reset() {
            lines = 0;
            rate = 10;
            dirtLow = 20;
            dirtHigh = 60;
            thin = 50;
            off = 5;
            leak = 10;
            near = 6;
        }

        boolean clocksLike(Law other) {
            return rate == other.rate && dirtLow == other.dirtLow && dirtHigh == other.dirtHigh
                    && thin == other.thin && off == other.off;
        }

        void readFrom(Text text) {
            reset();
            for (int line = 0; line <= MOST_LINES && text.goesOn(); line++) {
                readLine(text, text.firstWord(WORD_RATE, WORD_NEAR, line));
                text.needSign(';');
                lines = line + 1;
            }
        }

        private void readLine(Text text, int word) {
            switch (word) {
                case WORD_RATE:
                    rate = text.number(1, 99);
                    break;
                case WORD_DIRT:
                    dirtLow = text.number(0, 99);
                    text.needWord(WORD_TO);
                    dirtHigh = text.number(dirtLow, 99);
                    break;
                case WORD_THIN:
                    thin = text.number(0, 999);
                    break;
                case WORD_OFF:
                    off = text.number(0, 50);
                    break;
                case WORD_LEAK:
                    leak = text.number(1, 99);
                    break;
                case WORD_NEAR:
                    near = text.number(0, 50);
                    break;
                default:
                    break;
            }
        }

        boolean isThin(int b) {
            return b < thin;
        }

        private int growth(int g, int b) {
            return Math.max(0, (1000 * b - g) * rate / 1000);
        }

        int ageFor(int a, int b, int d, int share) {
            return ageAt(1000 * a, b, d, share);
        }

        private int ageAt(int goal, int b, int d, int share) {
            int g = 10 * d * share;
            for (int times = 0; times < MOST_AGE; times++) {
                if (g >= goal) {
                    return times;
                }
                int more = growth(g, b);
                if (more == 0) {
                    // it will never grow again
                    return MOST_AGE;
                }
                g += more;
            }
            return MOST_AGE;
        }

        int goalBelow(int a) {
            return 1000 * (a * (100 - off) / 100);
        }

        int goalAbove(int a) {
            return 1000 * (a * (100 + off) / 100);
        }

        int leastFor(int a, int b, int d) {
            return ageAt(goalBelow(a), b, d, dirtHigh);
        }

        int greatestFor(int a, int b, int d) {
            return ageAt(goalAbove(a), b, d, dirtLow);
        }

        int grownBy(int times, int b, int d, int share) {
            int g = 10 * d * share;
            for (int i = 0; i < times; i++) {
                int more = growth(g, b);
                if (more == 0) {
                    break;
                }
                g += more;
            }
            return g;
        }

        int drawn(int a, int seed) {
            int x = 1103515245 * seed + 12345;
            int e = a * off / 100;
            int wide = 2 * e + 1;
            int shift = wide > 0 ? (x >>> 16) % wide : 0;
            return Math.max(0, Math.min(MOST_COUNT, a - e + shift));
        }
    }

    /** STORIES: when beasts and peoples were there. */
    private static final class Stories {
        int lines;
        final int[] subject = new int[MOST_LINES];
        final int[] number = new int[MOST_LINES];
        final int[] from = new int[MOST_LINES];
        final int[] to = new int[MOST_LINES];

        void copyFrom(Stories other) {
            lines = other.lines;
            copyRow(other.subject, subject);
            copyRow(other.number, number);
            copyRow(other.from, from);
            copyRow(other.to, to);
        }

        void readFrom(Text text) {
            lines = 0;
            for (int line = 0; line <= MOST_LINES && text.goesOn(); line++) {
                int word = text.firstWord(WORD_BEAST, WORD_PEOPLE, line);
                if (word != NONE && line < MOST_LINES) {
                    readLine(text, word, line);
                    lines = line + 1;
                }
            }
        }

        private void readLine(Text text, int word, int line) {
            subject[line] = word;
            number[line] = text.number(0, (word == WORD_BEAST ? WHATS : PEOPLES) - 1);
            text.needWord(WORD_IN);
            from[line] = text.number(0, MOST_AGE);
            text.needWord(WORD_TO);
            to[line] = text.number(from[line], MOST_AGE);
            text.needSign(';');
        }

        private boolean spans(int line, int t) {
            return from[line] <= t && t <= to[line];
        }

        boolean tellsBeast(int beast, int t) {
            for (int line = 0; line < lines; line++) {
                if (subject[line] == WORD_BEAST && number[line] == beast && spans(line, t)) {
                    return true;
                }
            }
            return false;
        }

        int peoplesAt(int t) {
            int peoples = 0;
            for (int line = 0; line < lines; line++) {
                if (subject[line] == WORD_PEOPLE && spans(line, t)) {
                    peoples |= 1 << number[line];
                }
            }
            return peoples;
        }

        int oldestPeople() {
            int oldest = NONE;
            for (int line = 0; line < lines; line++) {
                if (subject[line] == WORD_PEOPLE) {
                    oldest = Math.max(oldest, to[line]);
                }
            }
            return oldest;
        }
    }

    /** SCRAPERS; the TEST of a RULE is kept as steps, facts ahead of what joins them. */
    private static final class Scrapers {
        int rules;
        int used;
        final int[] lies = new int[MOST_LINES];
        final int[] from = new int[MOST_LINES];
        final int[] to = new int[MOST_LINES];
        final int[] steps = new int[MOST_BYTES];

        void copyFrom(Scrapers other) {
            rules = other.rules;
            used = other.used;
            copyRow(other.lies, lies);
            copyRow(other.from, from);
            copyRow(other.to, to);
            copyRow(other.steps, steps);
        }

        void readFrom(Text text) {
            rules = 0;
            used = 0;
            for (int rule = 0; rule <= MOST_LINES && text.goesOn(); rule++) {
                int word = text.firstWord(WORD_SCRAPE, WORD_SCRAPE, rule);
                if (word != NONE && rule < MOST_LINES) {
                    readRule(text, rule);
                    rules = rule + 1;
                }
            }
        }

        private void readRule(Text text, int rule) {
            lies[rule] = text.wordAmong(WORD_BESIDE, WORD_UNDER) - WORD_BESIDE;
            from[rule] = used;
            if (text.takeWord(WORD_IF)) {
                readTest(text, 0);
            }
            to[rule] = used;
            text.needSign(';');
        }

        private void readTest(Text text, int depth) {
            readPart(text, depth);
            for (int i = 0; i < MOST_BYTES && text.takeWord(WORD_OR); i++) {
                readPart(text, depth);
                keepStep(WORD_OR, 0);
            }
        }

        private void readPart(Text text, int depth) {
            readFact(text, depth);
            for (int i = 0; i < MOST_BYTES && text.takeWord(WORD_AND); i++) {
                readFact(text, depth);
                keepStep(WORD_AND, 0);
            }
        }

        private void readFact(Text text, int depth) {
            boolean not = text.isWord(WORD_NOT);
            boolean opens = not || text.isSign('(');
            if (opens && depth >= MOST_NESTED) {
                text.fail(FAULT_NESTED);
            } else if (not) {
                text.advance();
                readFact(text, depth + 1);
                keepStep(WORD_NOT, 0);
            } else if (opens) {
                text.advance();
                readTest(text, depth + 1);
                text.needSign(')');
            } else {
                int word = text.wordAmong(WORD_CHEAP, WORD_BEAST);
                int n = 0;
                if (word == WORD_CHEAP) {
                    n = text.number(1, 99);
                } else if (word == WORD_CAVE) {
                    n = text.number(0, CAVES - 1);
                }
                keepStep(word, n);
            }
        }

        private void keepStep(int word, int n) {
            if (used < steps.length) {
                steps[used] = word * STEP + n;
                used++;
            }
        }
    }

    /** TOLD HANDS, and the weights of bent and gone fingers. */
    private static final class Hands {
        int size;
        final int[] sorts = new int[MOST_TOLD];
        final int[] five = new int[MOST_TOLD * FINGERS];
        final int[] bentWeights = {1, 1, 1, 1, 1};
        final int[] goneWeights = {1, 1, 1, 1, 1};

        void copyFrom(Hands other) {
            size = other.size;
            copyRow(other.sorts, sorts);
            copyRow(other.five, five);
            copyRow(other.bentWeights, bentWeights);
            copyRow(other.goneWeights, goneWeights);
        }

        int ofSort(int sort) {
            int many = 0;
            for (int hand = 0; hand < size; hand++) {
                many += sorts[hand] == sort ? 1 : 0;
            }
            return many;
        }

        int ringStands(int hand) {
            return Integer.compare(five[hand * FINGERS + RING], five[hand * FINGERS + INDEX]);
        }
    }

    /** The tape, the TOKENS along a text of its bytes, and the first FAULT there. */
    private static final class Text {
        final char[] tape = new char[MOST_BYTES];
        int bytes;
        int fault;
        int place = NONE;
        private int end;
        private int at;
        private int start;
        private int token;
        private int value;

        void append(int four) {
            for (int shift = 24; shift >= 0; shift -= 8) {
                if (bytes < tape.length) {
                    tape[bytes] = (char) (four >>> shift & 255);
                    bytes++;
                }
            }
        }

        void begin(int n) {
            end = Math.min(n, tape.length);
            bytes = 0;
            at = 0;
            fault = 0;
            place = NONE;
            advance();
        }

        boolean failed() {
            return fault != 0;
        }

        boolean goesOn() {
            return fault == 0 && token != TOKEN_END;
        }

        void advance() {
            start = at;
            while (start < end && (tape[start] == 10 || tape[start] == 32)) {
                start++;
            }
            at = start;
            if (start >= end) {
                token = TOKEN_END;
            } else if (isLetter(tape[start])) {
                while (at < end && isLetter(tape[at])) {
                    at++;
                }
                token = TOKEN_WORD;
                value = wordNumber();
            } else if (isDigit(tape[start])) {
                while (at < end && isDigit(tape[at])) {
                    at++;
                }
                token = at - start <= MOST_DIGITS ? TOKEN_NUMBER : TOKEN_BAD;
                value = decimal();
            } else {
                char c = tape[start];
                at++;
                token = c == ';' || c == '(' || c == ')' ? c : TOKEN_BAD;
            }
        }

        private int wordNumber() {
            int word = 0;
            int like = start;
            for (int i = 0; i < WORDS.length(); i++) {
                char c = WORDS.charAt(i);
                if (c == ' ') {
                    if (like == at) {
                        return word;
                    }
                    word++;
                    like = start;
                } else {
                    // end + 1 is no word's end: this one is not it
                    like = like < at && tape[like] == c ? like + 1 : end + 1;
                }
            }
            return NONE;
        }

        private int decimal() {
            int n = 0;
            for (int i = start; i < at && i < start + MOST_DIGITS; i++) {
                n = 10 * n + tape[i] - '0';
            }
            return n;
        }

        private static boolean isLetter(char c) {
            return c >= 'a' && c <= 'z';
        }

        private static boolean isDigit(char c) {
            return c >= '0' && c <= '9';
        }

        void fail(int kind) {
            if (fault == 0) {
                fault = kind;
                place = start;
            }
        }

        private void refuse() {
            fail(token == TOKEN_BAD ? FAULT_BAD : FAULT_PLACE);
        }

        boolean isWord(int word) {
            return fault == 0 && token == TOKEN_WORD && value == word;
        }

        boolean isSign(char sign) {
            return fault == 0 && token == sign;
        }

        boolean takeWord(int word) {
            boolean taken = isWord(word);
            if (taken) {
                advance();
            }
            return taken;
        }

        void needWord(int word) {
            if (!takeWord(word)) {
                refuse();
            }
        }

        void needSign(char sign) {
            if (isSign(sign)) {
                advance();
            } else {
                refuse();
            }
        }

        /** The word that stands here, one of neighbours in WORDS; NONE and a FAULT for others. */
        int wordAmong(int first, int last) {
            if (fault == 0 && token == TOKEN_WORD && value >= first && value <= last) {
                int word = value;
                advance();
                return word;
            }
            refuse();
            return NONE;
        }

        /** The same for the word that begins a LINE or RULE, of which there may be too many. */
        int firstWord(int first, int last, int line) {
            boolean fits = token == TOKEN_WORD && value >= first && value <= last;
            if (fits && line >= MOST_LINES) {
                fail(FAULT_LINES);
                return NONE;
            }
            return wordAmong(first, last);
        }

        int number(int low, int high) {
            if (fault != 0) {
                return low;
            }
            if (token != TOKEN_NUMBER) {
                refuse();
                return low;
            }
            if (value < low || value > high) {
                fail(FAULT_BOUNDS);
                return low;
            }
            int n = value;
            advance();
            return n;
        }
    }

    /** The latest FRACTION. */
    private static final class Fraction {
        long up;
        long low;

        /** Keeps a fraction by least numbers: true; 0 over 0, if the lower number is 0: false. */
        boolean put(long upperNumber, long lowerNumber) {
            if (lowerNumber <= 0) {
                return drop();
            }
            long common = commonOf(upperNumber, lowerNumber);
            if (common <= 0) {
                return drop();
            }
            up = upperNumber / common;
            low = lowerNumber / common;
            return true;
        }

        boolean drop() {
            up = 0;
            low = 0;
            return false;
        }

        private static long commonOf(long one, long other) {
            long a = one;
            long b = other;
            // Euclid's steps on two longs are fewer than 100
            for (int i = 0; i < 100 && b != 0; i++) {
                long rest = a % b;
                a = b;
                b = rest;
            }
            return a;
        }
    }

    /** TRAYS: rows of numbers, missing till they are laid. */
    private static final class Trays {
        static final int TRAYS = 4;
        static final int SORTS = 4;
        static final int PLACES = 40;
        final int[] sorts = new int[TRAYS];
        final int[] many = {NONE, NONE, NONE, NONE};
        final long[] numbers = new long[TRAYS * PLACES];

        void clear(int tray, int sort, int places) {
            sorts[tray] = sort;
            many[tray] = places;
            for (int place = 0; place < PLACES; place++) {
                numbers[tray * PLACES + place] = 0;
            }
        }

        long put(int tray, int place, long v) {
            long cut = v;
            if (sorts[tray] == 0) {
                cut = (byte) v;
            } else if (sorts[tray] == 1) {
                cut = (short) v;
            } else if (sorts[tray] == 2) {
                cut = (int) v;
            }
            numbers[tray * PLACES + place] = cut;
            return cut;
        }

        int numberAt(int tray, int place) {
            return (int) numbers[tray * PLACES + place];
        }

        boolean allWithin(int tray, long low, long high) {
            for (int place = 0; place < many[tray]; place++) {
                long v = numbers[tray * PLACES + place];
                if (v < low || v > high) {
                    return false;
                }
            }
            return true;
        }
    }

    /** PLAN and FOLLOWED: which skins to scrape next. */
    private static final class Search {
        int planned;
        int plannedPaints;
        int plannedGrains;
        int rowSize;
        int reached;
        final int[] row = new int[MOST_SKINS];
        private int taken;
        private int left;
        private int openPaints;
        private final int[] choices = new int[MOST_PLANNED];
        // of the choices from a place on in the set that is looked at: grains together, paints reached
        private final int[] grainsFrom = new int[MOST_PLANNED + 1];
        private final int[] paintsFrom = new int[MOST_PLANNED + 1];

        void makePlan(Skins skins, int grains) {
            int many = findChoices(skins);
            grainsFrom[many] = 0;
            paintsFrom[many] = skins.datedPaints();
            int best = 0;
            plannedGrains = 0;
            plannedPaints = Integer.bitCount(paintsFrom[many]);
            for (int place = 0; place < many; place++) {
                grainsFrom[place] = 0;
                paintsFrom[place] = paintsFrom[many];
            }
            for (int set = 1; set < 1 << many; set++) {
                lookAt(set, skins);
                int paints = Integer.bitCount(paintsFrom[0]);
                boolean better = paints > plannedPaints || paints == plannedPaints && grainsFrom[0] < plannedGrains;
                if (better && grainsFrom[0] <= grains) {
                    best = set;
                    plannedPaints = paints;
                    plannedGrains = grainsFrom[0];
                }
            }
            planned = skinsOf(best, many);
        }

        private int findChoices(Skins skins) {
            int many = 0;
            for (int skin = 0; skin < skins.size && many < MOST_PLANNED; skin++) {
                if (skins.layers[skin] == 0 && skins.touches(skin)) {
                    choices[many] = skin;
                    many++;
                }
            }
            return many;
        }

        /** Sets come one by one upwards, so that all above the lowest bit is as it was for the set before. */
        private void lookAt(int set, Skins skins) {
            int lowest = Integer.bitCount((set & -set) - 1);
            if (lowest >= MOST_PLANNED) {
                return;
            }
            int skin = choices[lowest];
            int grains = grainsFrom[lowest + 1] + skins.grains[skin];
            int paints = paintsFrom[lowest + 1] | 1 << skins.paintOf[skin];
            for (int place = lowest; place >= 0; place--) {
                grainsFrom[place] = grains;
                paintsFrom[place] = paints;
            }
        }

        private int skinsOf(int set, int many) {
            int bits = 0;
            for (int place = 0; place < many; place++) {
                bits |= isIn(set, place) ? 1 << choices[place] : 0;
            }
            return bits;
        }

        void makeRow(Wall wall, int grains) {
            rowSize = 0;
            taken = 0;
            left = grains;
            reached = wall.skins.datedPaints();
            openPaints = 0;
            for (int paint = 0; paint < wall.paints.size; paint++) {
                openPaints |= wall.isOpen(paint) ? 1 << paint : 0;
            }
            int next = nextByRules(wall);
            for (int i = 0; i < MOST_SKINS && next != NONE; i++) {
                take(wall.skins, next);
                next = nextByRules(wall);
            }
        }

        private void take(Skins skins, int skin) {
            if (rowSize >= MOST_SKINS) {
                return;
            }
            row[rowSize] = skin;
            rowSize++;
            taken |= 1 << skin;
            left -= skins.grains[skin];
            if (skins.touches(skin)) {
                reached |= 1 << skins.paintOf[skin];
            }
        }

        private int nextByRules(Wall wall) {
            for (int rule = 0; rule < wall.scrapers.rules; rule++) {
                int skin = nextByRule(wall, rule);
                if (skin != NONE) {
                    return skin;
                }
            }
            return NONE;
        }

        private int nextByRule(Wall wall, int rule) {
            Skins skins = wall.skins;
            int best = NONE;
            for (int skin = 0; skin < skins.size; skin++) {
                boolean free = skins.layers[skin] == 0 && !isIn(taken, skin) && skins.grains[skin] <= left;
                boolean fewer = best == NONE || skins.grains[skin] < skins.grains[best];
                if (free && fewer && skins.lies[skin] == wall.scrapers.lies[rule] && holds(wall, rule, skin)) {
                    best = skin;
                }
            }
            return best;
        }

        private boolean holds(Wall wall, int rule, int skin) {
            Scrapers scrapers = wall.scrapers;
            // a pile of answers, the latest in the lowest bit: nesting leaves it under 20 high
            int pile = 1;
            for (int i = scrapers.from[rule]; i < scrapers.to[rule]; i++) {
                int word = scrapers.steps[i] / STEP;
                int top = pile & 1;
                if (word == WORD_NOT) {
                    pile ^= 1;
                } else if (word == WORD_AND) {
                    pile = top == 1 ? pile >> 1 : pile >> 1 & ~1;
                } else if (word == WORD_OR) {
                    pile = pile >> 1 | top;
                } else {
                    pile = pile << 1 | (isFact(wall, word, scrapers.steps[i] % STEP, skin) ? 1 : 0);
                }
            }
            return (pile & 1) == 1;
        }

        private boolean isFact(Wall wall, int word, int n, int skin) {
            Skins skins = wall.skins;
            boolean touches = skins.touches(skin);
            int paint = skins.paintOf[skin];
            int kind = wall.paints.kind[paint];
            switch (word) {
                case WORD_CHEAP: return skins.grains[skin] <= n;
                case WORD_CAVE: return skins.cave[skin] == n;
                case WORD_HAND: return touches && kind == KIND_HAND;
                case WORD_DISC: return touches && kind == KIND_DISC;
                case WORD_BEAST: return touches && kind == KIND_BEAST;
                case WORD_SIGN: return touches && kind == KIND_SIGN;
                case WORD_BARE: return touches && !isIn(reached, paint);
                case WORD_OPEN: return touches && isIn(openPaints, paint);
                default: return false;
            }
        }
    }
}
