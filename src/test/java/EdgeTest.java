import java.io.IOException;
import java.nio.file.Path;
import java.util.ArrayList;
import java.util.List;

/** Each sentence of the document that names a boundary case, with a run of its own. */
public final class EdgeTest {
    public static void main(String[] args) throws IOException {
        Runs r = new Runs(Path.of(args.length > 0 ? args[0] : "../shared/DOC.md"));
        EdgeWall.run(r);
        EdgeTexts.run(r);
        EdgeClock.run(r);
        EdgeBounds.run(r);
        EdgeHands.run(r);
        EdgeWhen.run(r);
        EdgeTrays.run(r);
        throwers(r);
        r.end("EdgeTest");
    }

    /** Each call that throws, once for each exception that it may throw. */
    private static void throwers(Runs r) {
        r.about(0, "A call that throws changes nothing.");
        r.does(rich());
        r.still(Runs.NSE, "fingers 7 1 1 1 1 1", "over 7 0", "skin 0 1 7 1", "layer 5 1 1 1", "of 7 0", "span 5 0 true", "sort 5",
                "says 5", "leaked 5", "drip 5 1 1 1 1 1", "bound 7 true", "ring 7", "above 0 7", "rests 7", "older 7 1", "like 7 0",
                "whose 7 0", "ringed 7 0", "due 7 0", "stumps 7", "bent 7 0", "weights true 4", "times 7 0", "who 7 0", "alone 7 0",
                "say 7", "tray 4 0 0", "write 4 0 0", "pour 5 1", "image 3", "restore 3");
        r.still(Runs.ISE, "fingers 1 1 1 1 1 1", "like 1 0", "whose 1 0", "ringed 1 0", "due 1 0", "stumps 1", "bent 1 0",
                "weights true 2", "write 2 0 0", "pour 0 2", "restore 2");
        r.still(Runs.IAE, "paint 4 0 0", "fingers 0 100 1 1 1 1", "over 0 0", "skin 0 3 0 1", "layer 0 10000 1 1", "of 0 9", "law 21",
                "stories 21", "scrapers 21", "age 10000 0 0 0", "drip 0 401 1 1 1 1", "trial 401 1 1 1 1", "older 0 0", "many 0",
                "told 4 1 1 1 1 1", "like 0 5", "whose 0 4", "ringed 0 4", "due 0 5", "bent 0 5", "times 0 3", "who 0 6", "alone 0 6",
                "spread 10", "first 10", "plan 1000 0", "follow 1000 0", "behind 1000", "tray 0 4 0");
        r.still(Runs.IOB, "write 0 5 0", "pour 0 3");
        r.does("write 1 0 -1");
        r.still(Runs.IAE, "pour 0 1");
    }

    /** Calls after which there is something of all that a call could change. PAINT 0 is a hand, 1 none. */
    static String[] rich() {
        List<String> s = new ArrayList<>(List.of(untaped()));
        s.addAll(Runs.fed("rate 77;leak 5;"));
        return s.toArray(new String[0]);
    }

    /** The same, but for the tape, which is empty. */
    static String[] untaped() {
        List<String> s = new ArrayList<>(List.of(
                "paint 0 0 0", "paint 2 0 3", "paint 3 0 4", "paint 1 1 0", "paint 0 1 5", "over 1 0", "over 2 1",
                "fingers 0 50 20 55 55 55", "told 0 50 52 55 55 55", "told 1 50 52 55 56 57",
                "skin 0 1 1 5", "skin 0 2 0 6", "skin 0 2 2 7", "skin 1 0 0 8", "skin 1 1 3 4",
                "layer 0 300 1000 10", "layer 1 700 1000 10", "layer 3 100 1000 10", "layer 3 200 1000 10"));
        read(s, "law", "off 4;near 7;");
        read(s, "stories", "beast 3 in 1 to 90;people 0 in 1 to 40;");
        read(s, "scrapers", "scrape under;scrape over if cave 1;");
        tray(s, 0, 0, 1, 2, 3, 4, 5);
        tray(s, 1, 1, 100, 1000, 0, 200, 1000, 0);
        tray(s, 3, 3, 7, 7, 7, 7, 100);
        s.addAll(List.of("weights false 0", "image 0", "paint 3 2 4", "told 2 50 60 70 60 50", "image 1",
                "paint 3 5 9", "many 2"));
        read(s, "law", "rate 0;");
        return s.toArray(new String[0]);
    }

    private static void read(List<String> s, String how, String text) {
        s.addAll(Runs.fed(text));
        s.add(how + " " + text.length());
    }

    static void tray(List<String> s, int tray, int sort, long... numbers) {
        s.add("tray " + tray + " " + sort + " " + numbers.length);
        for (int i = 0; i < numbers.length; i++) {
            s.add("write " + tray + " " + i + " " + numbers[i]);
        }
    }

    static String[] tray(int tray, int sort, long... numbers) {
        List<String> s = new ArrayList<>();
        tray(s, tray, sort, numbers);
        return s.toArray(new String[0]);
    }

    /** A call so many times. */
    static String[] times(int many, String call) {
        String[] s = new String[many];
        java.util.Arrays.fill(s, call);
        return s;
    }

    /** A LAYER whose LEAST and GREATEST are just so much, by rate 10 and off 0: there is no dirt in it. */
    static String layer(int skin, int age) {
        return "layer " + skin + " " + Checks.countFor(age) + " 9999 0";
    }

    static String again(String text, int many) {
        return text.repeat(many);
    }
}
