/** Promises 37 to 45: TIMES, peoples, signs, where to scrape next, what may be said. */
public final class WhenTest {
    private static final Checks C = new Checks("WhenTest");
    private static final int BESIDE = 0;
    private static final int OVER = 1;
    private static final int UNDER = 2;

    public static void main(String[] args) {
        times();
        who();
        alone();
        spread();
        first();
        plan();
        planOfTwelve();
        follow();
        followByTests();
        behind();
        say();
        C.end();
    }

    private static RedHands wall() {
        RedHands x = new RedHands();
        Checks.law(x, "off 0;");
        return x;
    }

    private static void timesOf(String what, RedHands x, int paint, int many, int least, int greatest) {
        C.due(what + ", how many", x.times(paint, 0), many);
        C.due(what + ", the least", x.times(paint, 1), least);
        C.due(what + ", the greatest", x.times(paint, 2), greatest);
    }

    private static void times() {
        C.promise(37);
        RedHands x = wall();
        x.paint(1, 0, 3);
        x.paint(2, 0, 3);
        timesOf("all", x, 0, 401, 0, 400);
        timesOf("a beast of no STORY", x, 1, 0, RedHands.NONE, RedHands.NONE);
        Checks.stories(x, "beast 3 in 10 to 12;beast 3 in 20 to 21;beast 4 in 0 to 400;people 3 in 0 to 400;");
        timesOf("no beast", x, 0, 401, 0, 400);
        timesOf("a beast", x, 1, 5, 10, 21);
        Checks.aged(x, OVER, 1, 11);
        Checks.aged(x, UNDER, 1, 20);
        timesOf("a beast within bounds", x, 1, 3, 11, 20);
        Checks.aged(x, OVER, 0, 30);
        Checks.aged(x, UNDER, 0, 30);
        timesOf("one", x, 0, 1, 30, 30);
        Checks.aged(x, OVER, 0, 31);
        timesOf("a CLASH", x, 0, 0, RedHands.NONE, RedHands.NONE);
        C.fails("no PAINT", Checks.NSE, () -> x.times(2, 3));
        C.fails("what 3", Checks.IAE, () -> x.times(0, 3));
        C.fails("what -1", Checks.IAE, () -> x.times(0, -1));
    }

    private static void who() {
        C.promise(38);
        RedHands x = wall();
        x.paint(1, 0, 0);
        x.paint(2, 0, 1);
        C.due("no people", x.who(0, 0), false);
        C.fraction("no people", x, 0, 0);
        Checks.stories(x, "people 0 in 1 to 6;people 5 in 5 to 7;people 0 in 6 to 8;people 2 in 300 to 301;beast 1 in 6 to 6;");
        C.due("people 0", x.who(0, 0), true);
        C.fraction("8 of 13", x, 8, 13);
        C.due("people 5", x.who(0, 5), true);
        C.fraction("3 of 13", x, 3, 13);
        C.due("people 1", x.who(0, 1), true);
        C.fraction("0 of 13", x, 0, 1);
        x.who(1, 0);
        C.fraction("a beast", x, 1, 2);
        Checks.aged(x, OVER, 0, 7);
        x.who(0, 2);
        C.fraction("within bounds, 2 of 5", x, 2, 5);
        x.paint(1, 0, 0);
        Checks.aged(x, UNDER, 2, 7);
        x.who(2, 5);
        C.fraction("up to MOST, 3 of 10", x, 3, 10);
        Checks.aged(x, OVER, 0, 302);
        C.due("too late for all", x.who(0, 0), false);
        C.fraction("too late for all", x, 0, 0);
        C.fails("no PAINT", Checks.NSE, () -> x.who(3, 9));
        C.fails("people 6", Checks.IAE, () -> x.who(0, 6));
        C.fails("people -1", Checks.IAE, () -> x.who(0, -1));
    }

    private static void alone() {
        C.promise(39);
        RedHands x = wall();
        x.paint(1, 0, 0);
        x.paint(2, 0, 1);
        Checks.stories(x, "people 0 in 1 to 6;people 5 in 5 to 7;people 0 in 2 to 3;beast 1 in 1 to 1;beast 1 in 4 to 9;");
        C.due("people 0", x.alone(0, 0), 4);
        C.due("people 5", x.alone(0, 5), 1);
        C.due("people 1", x.alone(0, 1), 0);
        C.due("a beast", x.alone(1, 0), 2);
        Checks.aged(x, OVER, 0, 4);
        C.due("within bounds", x.alone(0, 0), 1);
        Checks.aged(x, UNDER, 0, 7);
        C.due("up to MOST", x.alone(0, 5), 1);
        C.fails("no PAINT", Checks.NSE, () -> x.alone(2, 9));
        C.fails("people 6", Checks.IAE, () -> x.alone(0, 6));
        C.fails("people -1", Checks.IAE, () -> x.alone(0, -1));
    }

    private static void spread() {
        C.promise(40);
        RedHands x = wall();
        C.due("none", x.spread(7), 0);
        x.paint(3, 0, 7);
        x.paint(3, 0, 7);
        x.paint(3, 5, 7);
        x.paint(3, 4, 9);
        x.paint(2, 3, 7);
        C.due("two CAVES", x.spread(7), 2);
        C.due("one", x.spread(9), 1);
        C.due("another WHAT", x.spread(0), 0);
        RedHands y = wall();
        for (int cave = 0; cave < 6; cave++) {
            y.paint(3, cave, 0);
        }
        C.due("all CAVES", y.spread(0), 6);
        C.due("all CAVES, the first", y.first(0), 0);
        C.fails("WHAT 10", Checks.IAE, () -> x.spread(10));
        C.fails("WHAT -1", Checks.IAE, () -> x.spread(-1));
    }

    private static void first() {
        C.promise(41);
        RedHands x = wall();
        C.due("none", x.first(7), RedHands.NONE);
        x.paint(2, 0, 7);
        x.paint(3, 0, 7);
        x.paint(3, 1, 7);
        x.paint(3, 2, 7);
        x.paint(3, 2, 6);
        C.due("all alike", x.first(7), 1);
        Checks.aged(x, OVER, 3, 20);
        C.due("the oldest", x.first(7), 3);
        Checks.aged(x, OVER, 2, 20);
        C.due("like ones", x.first(7), 2);
        Checks.aged(x, OVER, 0, 90);
        x.over(0, 1);
        C.due("by what lies over it", x.first(7), 1);
        C.due("another WHAT", x.first(6), 4);
        C.due("WHAT 9", x.first(9), RedHands.NONE);
        C.fails("WHAT 10", Checks.IAE, () -> x.first(10));
        C.fails("WHAT -1", Checks.IAE, () -> x.first(-1));
    }

    private static void planOf(String what, RedHands x, int grains, int set, int paints, int taken) {
        C.due(what + ", the set", x.plan(grains, 0), set);
        C.due(what + ", PAINTS", x.plan(grains, 1), paints);
        C.due(what + ", GRAINS", x.plan(grains, 2), taken);
    }

    private static void plan() {
        C.promise(42);
        RedHands x = wall();
        for (int i = 0; i < 5; i++) {
            x.paint(1, 0, 0);
        }
        x.skin(0, BESIDE, 0, 1);
        x.skin(0, OVER, 0, 10);
        x.skin(0, UNDER, 0, 4);
        x.skin(0, OVER, 1, 4);
        x.skin(0, UNDER, 2, 8);
        RedHands y = wall();
        y.paint(1, 0, 0);
        y.skin(0, OVER, 0, 3);
        y.skin(0, UNDER, 0, 3);
        planOf("the first alone", y, 9, 1, 1, 3);
        y.layer(0, 1, 1, 1);
        planOf("the first has LAYERS", y, 9, 0, 1, 0);
        planOf("nothing to spend", x, 0, 0, 0, 0);
        planOf("too little", x, 3, 0, 0, 0);
        planOf("one of two like ones", x, 7, 4, 1, 4);
        planOf("two", x, 8, 12, 2, 8);
        planOf("three", x, 16, 28, 3, 16);
        planOf("more than all", x, 999, 28, 3, 16);
        x.layer(2, 1, 1, 1);
        planOf("a SKIN that has LAYERS, though THIN", x, 7, 8, 2, 4);
        planOf("its PAINT needs no other", x, 999, 24, 3, 12);
        C.fails("GRAINS -1", Checks.IAE, () -> x.plan(-1, 0));
        C.fails("GRAINS 1000", Checks.IAE, () -> x.plan(1000, 0));
        C.fails("what 3", Checks.IAE, () -> x.plan(0, 3));
        C.fails("what -1", Checks.IAE, () -> x.plan(0, -1));
    }

    /** Only the first 12 of them are looked at; of like sets it is the least as bits. */
    private static void planOfTwelve() {
        RedHands x = wall();
        for (int i = 0; i < 15; i++) {
            x.paint(1, 0, 0);
            x.skin(0, BESIDE, 0, 1);
            x.skin(0, OVER, i, i == 12 ? 1 : 5);
        }
        planOf("five of twelve", x, 29, 0b1010101010, 5, 25);
        planOf("all twelve", x, 999, 0xaaaaaa, 12, 60);
        planOf("the 13th isn't looked at", x, 1, 0, 0, 0);
        x.layer(1, 1, 1, 1);
        planOf("it is now", x, 1, 1 << 25, 2, 1);
    }

    private static void row(String what, RedHands x, int grains, int... skins) {
        C.due(what + ", how many", x.follow(grains, RedHands.NONE), skins.length);
        for (int i = 0; i < skins.length; i++) {
            C.due(what + ", " + i, x.follow(grains, i), skins[i]);
        }
        C.due(what + ", one more", x.follow(grains, skins.length), RedHands.NONE);
    }

    private static void follow() {
        C.promise(43);
        RedHands x = wall();
        x.paint(0, 0, 0);
        x.paint(1, 0, 0);
        x.paint(2, 1, 0);
        x.paint(3, 1, 0);
        x.skin(0, OVER, 0, 5);
        x.skin(0, OVER, 1, 4);
        x.skin(1, UNDER, 2, 3);
        x.skin(1, UNDER, 3, 3);
        x.skin(1, BESIDE, 0, 2);
        x.skin(1, OVER, 3, 9);
        row("no RULES", x, 999);
        Checks.scrapers(x, "scrape under;scrape over;");
        row("fewest GRAINS, least numbers", x, 999, 2, 3, 1, 0, 5);
        row("what is left", x, 11, 2, 3, 1);
        row("what is left, a dear one passed over", x, 12, 2, 3, 1);
        row("just enough", x, 15, 2, 3, 1, 0);
        row("nothing", x, 0);
        x.layer(3, 1, 1, 1);
        row("one has LAYERS", x, 999, 2, 1, 0, 5);
        Checks.scrapers(x, "scrape beside if hand;scrape beside if not bare;scrape over if cheap 4;");
        row("the first RULE for which there is one", x, 999, 4, 1);
        Checks.scrapers(x, "scrape over if bare and cheap 4;scrape under;scrape over if bare;");
        row("again from the first RULE", x, 999, 1, 2, 0);
        RedHands y = wall();
        int[] all = new int[30];
        for (int i = 0; i < 30; i++) {
            all[i] = y.skin(0, BESIDE, 0, 1);
        }
        Checks.scrapers(y, "scrape beside;");
        row("all thirty", y, 30, all);
        C.due("i -2", x.follow(999, -2), RedHands.NONE);
        C.due("i far", x.follow(999, Integer.MAX_VALUE), RedHands.NONE);
        C.fails("GRAINS -1", Checks.IAE, () -> x.follow(-1, 0));
        C.fails("GRAINS 1000", Checks.IAE, () -> x.follow(1000, RedHands.NONE));
    }

    private static void rule(RedHands x, String rule, int... skins) {
        C.due(rule, Checks.scrapers(x, rule + ";"), 1);
        row(rule, x, 999, skins);
    }

    private static void followByTests() {
        RedHands x = wall();
        for (int kind = 0; kind < 4; kind++) {
            x.paint(kind, kind, 0);
            x.skin(kind, OVER, kind, 10 + kind);
            x.skin(kind, BESIDE, kind, 20 + kind);
        }
        x.paint(0, 0, 0);
        x.over(0, 4);
        x.skin(0, OVER, 4, 50);
        Checks.aged(x, UNDER, 4, 300);
        rule(x, "scrape over if hand", 0, 8);
        rule(x, "scrape over if disc", 2);
        rule(x, "scrape over if beast", 4);
        rule(x, "scrape over if sign", 6);
        rule(x, "scrape over if cave 2", 4);
        rule(x, "scrape over if cheap 11", 0, 2);
        rule(x, "scrape over if bare", 0, 2, 4, 6);
        rule(x, "scrape over if open", 2, 4, 6);
        rule(x, "scrape over if not open", 0, 8);
        rule(x, "scrape beside if hand or disc or beast or sign or bare or open");
        rule(x, "scrape beside if not hand and not bare", 1, 3, 5, 7);
        rule(x, "scrape beside if cave 1 or cave 3", 3, 7);
        rule(x, "scrape beside if cheap 21", 1, 3);
        rule(x, "scrape over if hand or disc and cave 0", 0, 8);
        rule(x, "scrape over if (hand or disc) and cave 1", 2);
        rule(x, "scrape over if not (hand or disc)", 4, 6);
        rule(x, "scrape over if not hand or disc", 2, 4, 6);
        rule(x, "scrape over if not hand and not disc", 4, 6);
        rule(x, "scrape over if not not disc", 2);
        rule(x, "scrape over if disc and cave 1 or sign and cave 3", 2, 6);
        rule(x, "scrape over if (disc or (sign and (cave 2 or not (cheap 5))))", 2, 6);
        rule(x, "scrape under");
        openPaints();
        // bare looks at what is in the row, too
        x.skin(1, UNDER, 1, 1);
        x.skin(1, OVER, 1, 2);
        rule(x, "scrape over if disc and bare", 11);
        Checks.scrapers(x, "scrape under;scrape over if disc and bare;");
        row("another one of its PAINT is in the row", x, 999, 10);
    }

    private static void openPaints() {
        RedHands x = wall();
        x.paint(0, 0, 0);
        x.paint(0, 0, 0);
        x.skin(0, OVER, 0, 1);
        rule(x, "scrape over if open", 0);
        Checks.aged(x, UNDER, 0, 399);
        rule(x, "scrape over if open");
        x.skin(0, OVER, 1, 1);
        rule(x, "scrape over if open", 2);
        Checks.aged(x, OVER, 1, 1);
        rule(x, "scrape over if open");
    }

    private static void behind() {
        C.promise(44);
        RedHands x = wall();
        C.due("of nothing", x.behind(999), 0);
        for (int i = 0; i < 14; i++) {
            x.paint(1, 0, 0);
        }
        x.skin(0, OVER, 0, 9);
        x.skin(0, OVER, 1, 5);
        x.skin(0, UNDER, 2, 5);
        C.due("no RULES", x.behind(10), 2);
        C.due("no GRAINS", x.behind(0), 0);
        Checks.scrapers(x, "scrape over if not cheap 5;scrape over;scrape under;");
        C.due("one fewer", x.behind(10), 1);
        C.due("none fewer", x.behind(999), 0);
        x.layer(0, 1, 1, 1);
        C.due("one of LAYERS counts in both", x.behind(10), 0);
        for (int i = 0; i < 14; i++) {
            x.skin(0, OVER, i, 1);
        }
        C.due("below 0, as the plan is of 12", x.behind(999) < 0, true);
        C.due("four more than the plan", x.behind(999), -4);
        C.fails("GRAINS -1", Checks.IAE, () -> x.behind(-1));
        C.fails("GRAINS 1000", Checks.IAE, () -> x.behind(1000));
    }

    private static void say() {
        C.promise(45);
        RedHands x = wall();
        for (int i = 0; i < 10; i++) {
            x.paint(1, 0, 0);
        }
        C.due("2 nothing", x.say(0), 2);
        Checks.aged(x, UNDER, 1, 300);
        C.due("7 MOST alone", x.say(1), 7);
        Checks.aged(x, OVER, 2, 50);
        C.due("6 LEAST", x.say(2), 6);
        Checks.aged(x, OVER, 3, 50);
        Checks.aged(x, UNDER, 3, 60);
        C.due("5 both", x.say(3), 5);
        Checks.stories(x, "people 0 in 30 to 60;people 1 in 0 to 49;");
        C.due("4 one people ALONE", x.say(3), 4);
        Checks.stories(x, "people 0 in 30 to 60;people 1 in 60 to 60;");
        C.due("not ALONE at MOST", x.say(3), 5);
        Checks.stories(x, "people 0 in 30 to 60;people 1 in 0 to 49;");
        C.due("not in all TIMES", x.say(2), 6);
        Checks.stories(x, "people 0 in 30 to 60;people 1 in 0 to 55;");
        C.due("not ALONE in all", x.say(3), 5);
        Checks.stories(x, "people 0 in 50 to 55;people 1 in 56 to 60;");
        C.due("one after another", x.say(3), 5);
        Checks.stories(x, "people 1 in 0 to 10;people 0 in 0 to 49;people 2 in 0 to 3;");
        C.due("3 before all peoples", x.say(3), 3);
        C.due("3 before all, without MOST", x.say(2), 3);
        Checks.stories(x, "people 1 in 0 to 50;");
        C.due("LEAST is the latest", x.say(2), 6);
        Checks.stories(x, "beast 1 in 0 to 10;");
        C.due("no peoples are told", x.say(3), 5);
        Checks.aged(x, OVER, 4, 8);
        Checks.aged(x, UNDER, 4, 8);
        C.due("LEAST is MOST", x.say(4), 5);
        Checks.aged(x, OVER, 4, 9);
        C.due("1 CLASH", x.say(4), 1);
        Checks.aged(x, OVER, 7, 1);
        C.due("6 LEAST is 1", x.say(7), 6);
        Checks.aged(x, UNDER, 7, 399);
        C.due("5 MOST is 399", x.say(7), 5);
        x.over(4, 5);
        x.over(5, 6);
        x.over(6, 4);
        C.due("0 RING", x.say(4), 0);
        x.paint(2, 1, 1);
        Checks.aged(x, UNDER, 10, 20);
        Checks.stories(x, "people 3 in 0 to 400;beast 2 in 0 to 400;");
        C.due("a beast without TIMES", x.say(10), 7);
        Checks.stories(x, "people 3 in 0 to 400;beast 1 in 9 to 9;");
        C.due("a beast of one TIME", x.say(10), 4);
        C.fails("no PAINT", Checks.NSE, () -> x.say(11));
        C.fails("PAINT -1", Checks.NSE, () -> x.say(-1));
    }
}
