import java.lang.management.ManagementFactory;

/** All calls of a run live in one room: a wall is made once, and no call makes rows of its own. */
public final class RoomTest {
    private static final Checks C = new Checks("RoomTest");
    private static final int CALLS = 512;
    private static final long LEAST_OBJECT = 16;
    private static final long BYTES_OF_A_WALL = 80_000;

    private interface Use {
        void call(RedHands x, int i);
    }

    public static void main(String[] args) {
        C.promise(1);
        RedHands x = full();
        // once to load what the calls need, once to measure
        for (int i = 0; i < 3; i++) {
            measure(x, i == 2);
        }
        long before = allocated();
        RedHands y = new RedHands();
        long made = allocated() - before;
        C.due("a new wall takes " + made + " bytes", made <= BYTES_OF_A_WALL && y.count(0) == 0, true);
        C.end();
    }

    private static void measure(RedHands x, boolean told) {
        still("rests", x, told, (w, i) -> w.rests(i % 30));
        still("clash", x, told, (w, i) -> w.clash(i % 3 - 1));
        still("plan", x, told, (w, i) -> w.plan(i, 0));
        still("follow", x, told, (w, i) -> w.follow(i, i % 9));
        still("behind", x, told, (w, i) -> w.behind(i));
        still("say", x, told, (w, i) -> w.say(i % 30));
        still("times", x, told, (w, i) -> w.times(i % 30, 0));
        still("older", x, told, (w, i) -> w.older(i % 30, 1));
        still("whose", x, told, (w, i) -> w.whose(0, i % 4));
        still("trial", x, told, (w, i) -> w.trial(50, 1000, 100, 40, 100));
        still("image", x, told, (w, i) -> w.image(i % 3));
        still("restore", x, told, (w, i) -> w.restore(i % 3));
        still("tray", x, told, (w, i) -> w.tray(i % 4, 3, 40));
        still("law", x, told, (w, i) -> feedAndLaw(w));
    }

    private static void feedAndLaw(RedHands w) {
        w.feed(0x6f666620, 0x303b2020, 0x20202020, 0x20202020, 0x20202020);
        w.law(20);
    }

    private static long allocated() {
        return ((com.sun.management.ThreadMXBean) ManagementFactory.getThreadMXBean())
                .getThreadAllocatedBytes(Thread.currentThread().getId());
    }

    private static void still(String what, RedHands x, boolean told, Use use) {
        long before = allocated();
        for (int i = 0; i < CALLS; i++) {
            use.call(x, i);
        }
        long bytes = allocated() - before;
        if (told) {
            C.due(CALLS + " calls of " + what + " take " + bytes + " bytes", bytes < CALLS * LEAST_OBJECT, true);
        }
    }

    private static RedHands full() {
        RedHands x = new RedHands();
        Checks.law(x, "off 0;");
        for (int i = 0; i < 30; i++) {
            x.paint(i % 4, 0, i % 10);
            x.skin(0, 1 + i % 2, i, 1 + i);
        }
        for (int i = 0; i < 29; i++) {
            x.over(i, i + 1);
        }
        for (int i = 0; i < 12; i++) {
            x.layer(i, 100 + i, 1000, 0);
        }
        for (int i = 0; i < 40; i++) {
            x.told(i % 4, 50, 50, 50, 50, 50 + i);
        }
        Checks.stories(x, "people 0 in 0 to 200;people 1 in 50 to 60;beast 2 in 0 to 300;");
        Checks.scrapers(x, "scrape over if bare and not cheap 3;scrape under if open or hand;scrape over;");
        for (int i = 0; i < 3; i++) {
            x.image(i);
        }
        return x;
    }
}
