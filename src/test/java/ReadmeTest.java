import java.nio.file.Files;
import java.nio.file.Path;
import java.util.List;

/** The lines of Java in README.md stand here too, and answer what is told there. */
public final class ReadmeTest {
    private static final Checks C = new Checks("ReadmeTest");

    public static void main(String[] args) throws Exception {
        examples();
        linesStandHere();
        C.end();
    }

    private static void examples() {
        RedHands wall = new RedHands();
        int hand = wall.paint(0, 1, 0);
        int disc = wall.paint(1, 1, 0);
        C.due("hand", hand, 0);
        C.due("disc", disc, 1);
        wall.over(disc, hand);
        C.due("above", wall.above(disc, hand), true);
        int skin = wall.skin(1, 1, disc, 5);
        C.due("skin", skin, 0);
        wall.layer(skin, 100, 1000, 100);
        C.due("layers", wall.count(100), 1);
        int least = wall.bound(hand, false);
        C.due("least", least, 4);
        wall.older(hand, 4);
        long upper = wall.upper();
        long lower = wall.lower();
        C.due("upper", upper, 9);
        C.due("lower", lower, 10);
        int said = wall.say(hand);
        C.due("said", said, 6);

        wall.feed(0x6f666620, 0x303b6c65, 0x616b2032, 0x353b2020, 0x20202020);
        C.due("bytes", wall.count(6), 20);
        int lines = wall.law(14);
        C.due("lines", lines, 2);
        int leak = wall.count(12);
        C.due("leak", leak, 25);
        wall.feed(0x6f666620, 0x39393b20, 0x20202020, 0x20202020, 0x20202020);
        int refused = wall.law(7);
        C.due("refused", refused, -13);
        int place = wall.fault(1);
        C.due("place", place, 4);
        C.due("the earlier law stays", wall.count(4), 2);
    }

    private static void linesStandHere() throws Exception {
        List<String> here = Files.readAllLines(Path.of("src/test/java/ReadmeTest.java")).stream().map(String::trim).toList();
        boolean java = false;
        int found = 0;
        for (String line : Files.readAllLines(Path.of("README.md"))) {
            if (line.startsWith("```")) {
                java = line.equals("```java");
            } else if (java) {
                String code = line.replaceAll("//.*", "").trim();
                C.due("'" + code + "' stands in ReadmeTest", here.contains(code), true);
                found++;
            }
        }
        C.due("lines of Java in README.md", found, 17);
    }
}
