import java.lang.reflect.Constructor;
import java.lang.reflect.Field;
import java.lang.reflect.Method;
import java.lang.reflect.Modifier;
import java.nio.charset.StandardCharsets;
import java.nio.file.Files;
import java.nio.file.Path;
import java.util.ArrayList;
import java.util.Arrays;
import java.util.List;
import java.util.TreeSet;
import java.util.regex.Matcher;
import java.util.regex.Pattern;

/** The rules of LANGUAGE.md that can be seen in the source or in the class, and the face of the document. */
public final class LanguageTest {
    private static final Checks C = new Checks("LanguageTest");
    private static final String FACE = "paint/3 fingers/6 over/2 skin/4 layer/4 of/2 feed/5 law/1 stories/1 scrapers/1"
            + " fault/1 age/4 span/3 sort/1 says/1 leaked/1 drip/6 trial/5 bound/2 clash/1 ring/1 above/2 rests/1 older/2"
            + " many/1 upper/0 lower/0 told/6 like/2 whose/2 ringed/2 due/2 stumps/1 bent/2 weights/2 times/2 who/2"
            + " alone/2 spread/1 first/1 plan/2 follow/2 behind/1 say/1 tray/3 write/3 pour/2 image/1 restore/1 count/1";

    public static void main(String[] args) throws Exception {
        String source = Files.readString(Path.of("src/main/java/RedHands.java"), StandardCharsets.ISO_8859_1);
        String code = source.replaceAll("(?s)/\\*.*?\\*/", "").replaceAll("//[^\n]*", "")
                .replaceAll("\"[^\"\n]*\"", "\"\"").replaceAll("'[^'\n]+'", "' '");
        face();
        words(code);
        calls(code);
        sizes(source);
        C.end();
    }

    private static void face() {
        TreeSet<String> due = new TreeSet<>(Arrays.asList(FACE.split(" ")));
        TreeSet<String> shown = new TreeSet<>();
        TreeSet<String> hidden = new TreeSet<>();
        for (Method m : RedHands.class.getDeclaredMethods()) {
            if (Modifier.isPublic(m.getModifiers())) {
                shown.add(m.getName() + "/" + m.getParameterCount());
            } else {
                C.due(m.getName() + " is private", Modifier.isPrivate(m.getModifiers()), true);
                hidden.add(m.getName());
            }
        }
        C.due("the face " + shown, shown.equals(due), true);
        for (Class<?> inside : RedHands.class.getDeclaredClasses()) {
            C.due(inside + " is static", Modifier.isStatic(inside.getModifiers()), true);
            for (Method m : inside.getDeclaredMethods()) {
                hidden.add(m.getName());
            }
            fields(inside);
        }
        for (String name : shown) {
            C.due("none inside bears the name " + name, hidden.contains(name.substring(0, name.indexOf('/'))), false);
        }
        for (Field f : RedHands.class.getDeclaredFields()) {
            C.due(f.getName(), Modifier.isPrivate(f.getModifiers()), !f.getName().equals("NONE"));
        }
        fields(RedHands.class);
        Constructor<?>[] made = RedHands.class.getDeclaredConstructors();
        C.due("constructors", made.length, 1);
        C.due("classes inside", RedHands.class.getDeclaredClasses().length <= 12, true);
    }

    private static void fields(Class<?> type) {
        int own = 0;
        for (Field f : type.getDeclaredFields()) {
            if (Modifier.isStatic(f.getModifiers())) {
                C.due(f.getName() + " is final", Modifier.isFinal(f.getModifiers()), true);
            } else {
                own++;
            }
        }
        C.due(type + " has few fields", own <= 20, true);
    }

    private static void words(String code) {
        String[] none = {"->", "::", "\\btry\\b", "\\bcatch\\b", "\\bfinally\\b", "\\bassert\\b", "\\bsynchronized\\b",
            "\\bdouble\\b", "\\bfloat\\b", "Exact\\b", "\" *\\+", "\\+ *\"", "\\bSystem\\.(?!arraycopy\\b)",
            "\\.equals\\(", "\\bhashCode\\b", "\\btoString\\b", "static *\\{", "\\bpackage\\b", "\\bnative\\b",
            "\\bjava\\.(?!util\\.NoSuchElementException)"};
        for (String bad : none) {
            C.due("none of " + bad, Pattern.compile(bad).matcher(code).find(), false);
        }
        Matcher thrown = Pattern.compile("throw\\s+new\\s+(\\w+)").matcher(code);
        List<String> known = List.of("IllegalStateException", "IllegalArgumentException", "IndexOutOfBoundsException",
                "NoSuchElementException");
        while (thrown.find()) {
            C.due("throws " + thrown.group(1), known.contains(thrown.group(1)), true);
        }
    }

    private static void calls(String code) {
        Matcher m = Pattern.compile("\\b(Integer|Math|Long|String|Arrays|System|Character)\\.(\\w+)").matcher(code);
        List<String> known = List.of("Integer.bitCount", "Integer.compare", "Math.max", "Math.min", "Math.abs",
                "System.arraycopy");
        while (m.find()) {
            C.due("uses " + m.group(), known.contains(m.group()), true);
        }
    }

    /** Methods of some sixty lines, of seven parameters; signs 1 to 127. */
    private static void sizes(String source) {
        for (int i = 0; i < source.length(); i++) {
            if (source.charAt(i) > 127) {
                C.due("a sign above 127", i, -1);
            }
        }
        List<String> lines = new ArrayList<>(Arrays.asList(source.split("\n")));
        Pattern head = Pattern.compile("^( {4}| {8})(public|private|static|final|void|int|long|boolean)\\b[^;=]*\\(.*");
        int longest = 0;
        for (int i = 0; i < lines.size(); i++) {
            Matcher m = head.matcher(lines.get(i));
            if (m.matches()) {
                String close = m.group(1) + "}";
                int end = i;
                while (end < lines.size() && !lines.get(end).equals(close)) {
                    end++;
                }
                longest = Math.max(longest, end - i + 1);
                String head1 = lines.get(i) + (lines.get(i).endsWith("{") ? "" : lines.get(i + 1));
                int commas = head1.substring(head1.indexOf('('), head1.indexOf(')')).split(",").length;
                C.due("parameters of " + lines.get(i).trim(), commas <= 7, true);
            }
        }
        C.due("methods are short (" + longest + ")", longest <= 60 && longest > 5, true);
    }
}
