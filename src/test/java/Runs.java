import java.io.IOException;
import java.lang.reflect.InvocationTargetException;
import java.lang.reflect.Method;
import java.lang.reflect.Modifier;
import java.nio.charset.StandardCharsets;
import java.nio.file.Files;
import java.nio.file.Path;
import java.util.ArrayList;
import java.util.Arrays;
import java.util.HashMap;
import java.util.List;
import java.util.Map;
import java.util.TreeSet;
import java.util.regex.Matcher;
import java.util.regex.Pattern;

/**
 * Runs of calls on new walls, each run about one sentence of the document. A call is told as a text ("over 1 0"), so
 * that a run can be made again on another wall: what a call changes is looked for on walls that are made for that
 * alone, as no wall may be used for more than 512 calls.
 */
final class Runs {
    static final String NSE = "throws.NoSuchElementException";
    static final String ISE = "throws.IllegalStateException";
    static final String IAE = "throws.IllegalArgumentException";
    static final String IOB = "throws.IndexOutOfBoundsException";
    static final int NONE = -1;

    private static final List<String> THROWN = List.of(NSE, ISE, IAE, IOB);
    private static final int MOST_CALLS = 512;
    // of calls that look at one wall; by three, as a FRACTION is looked at by three calls
    private static final int LOOKS = 240;
    private static final int PROMISES = 51;

    private final Map<String, Method> methods = new HashMap<>();
    private final Map<String, Object[]> arguments = new HashMap<>();
    private final TreeSet<Integer> promises = new TreeSet<>();
    private final Map<String, TreeSet<String>> throwers = new HashMap<>();
    private final String document;
    private final List<String> calls = new ArrayList<>();
    private RedHands wall = new RedHands();
    private int used;
    private String seen;
    private String about = "";
    private int right;
    private int wrong;

    Runs(Path page) throws IOException {
        for (Method m : RedHands.class.getDeclaredMethods()) {
            if (Modifier.isPublic(m.getModifiers())) {
                methods.put(m.getName(), m);
            }
        }
        if (Files.isReadable(page)) {
            document = plain(Files.readString(page, StandardCharsets.UTF_8));
        } else {
            System.out.println("no document at " + page + ": its sentences are not looked up");
            document = null;
        }
    }

    private static String plain(String text) {
        return text.replaceAll("\\s+", " ");
    }

    // ---- what a run is about

    /** A new wall, for a sentence of a promise; 0: of the terms. */
    void about(int promise, String sentence) {
        String shown = sentence.length() > 90 ? sentence.substring(0, 90) + ".." : sentence;
        about = (promise == 0 ? "terms" : "promise " + promise) + ", '" + shown + "'";
        promises.add(promise);
        if (document != null) {
            tell("stands in the document", sectionOf(promise).contains(plain(sentence)), true);
        }
        anew();
    }

    private String sectionOf(int promise) {
        if (promise == 0) {
            return document.substring(document.indexOf("## Terms"), document.indexOf("## Promise 1:"));
        }
        String next = promise == PROMISES ? "## Not promised" : "## Promise " + (promise + 1) + ":";
        return document.substring(document.indexOf("## Promise " + promise + ":"), document.indexOf(next));
    }

    /** A new wall for the same sentence, on which these calls are made. */
    void anew(String... first) {
        wall = new RedHands();
        used = 0;
        calls.clear();
        seen = null;
        does(first);
    }

    List<String> told() {
        return new ArrayList<>(calls);
    }

    // ---- what is due

    private void tell(String what, Object got, Object want) {
        if (got.equals(want)) {
            right++;
        } else {
            wrong++;
            System.out.println(about + ": " + what + " answered " + got + ", due is " + want);
        }
    }

    /** Calls whose answers are due elsewhere, or nowhere. */
    void does(String... many) {
        for (String call : many) {
            String got = make(call);
            if (got.startsWith("throws")) {
                tell(call, got, "no throw");
            }
        }
    }

    private String make(String call) {
        if (used >= MOST_CALLS) {
            tell(call + " of a wall that was used", used, "fewer than " + MOST_CALLS);
        }
        used++;
        calls.add(call);
        seen = null;
        return answer(wall, call);
    }

    void is(String call, long want) {
        tell(call, make(call), String.valueOf(want));
    }

    void is(String call, boolean want) {
        tell(call, make(call), String.valueOf(want));
    }

    /** The calls answer so, and change nothing. */
    void still(Object want, String... many) {
        for (String call : many) {
            String before = seen == null ? look(calls, calls, true) : seen;
            tell(call, make(call), String.valueOf(want));
            calls.remove(calls.size() - 1);
            List<String> with = told();
            with.add(call);
            tell(call + " changes nothing", look(calls, with, true).equals(before), true);
            seen = before;
        }
    }

    /** The FRACTION that a call makes. */
    void makes(String call, long upper, long lower) {
        String got = make(call);
        boolean told = methods.get(call.substring(0, call.indexOf(' '))).getReturnType() == boolean.class;
        tell(call, got, told ? String.valueOf(lower != 0) : "null");
        is("upper", upper);
        is("lower", lower);
    }

    /** A text is fed and read as it is told: the answer. */
    private String read(String how, String text) {
        for (String call : fed(text)) {
            make(call);
        }
        return make(how + " " + text.length());
    }

    /** The calls that bring a text on the tape, with blanks behind it. */
    static List<String> fed(String text) {
        StringBuilder s = new StringBuilder(text);
        while (s.length() % 20 != 0) {
            s.append(' ');
        }
        List<String> feeds = new ArrayList<>();
        for (int i = 0; i < s.length(); i += 20) {
            StringBuilder call = new StringBuilder("feed");
            for (int k = i; k < i + 20; k += 4) {
                int v = s.charAt(k) << 24 | s.charAt(k + 1) << 16 | s.charAt(k + 2) << 8 | s.charAt(k + 3);
                call.append(' ').append(v);
            }
            feeds.add(call.toString());
        }
        return feeds;
    }

    void reads(String how, String text, int want) {
        tell(how + " '" + text + "'", read(how, text), String.valueOf(want));
    }

    /** The text is taken, of so many LINES or RULES. */
    void takes(String how, String text, int lines) {
        reads(how, text, lines);
        is("fault 0", 0);
        is("fault 1", NONE);
        is("count 6", 0);
    }

    /** The text is refused with this FAULT at this place; nothing but the tape and the FAULT changes. */
    void refuses(String how, String text, int kind, int place) {
        List<String> before = told();
        tell(how + " '" + text + "'", read(how, text), String.valueOf(-10 - kind));
        tell(how + " '" + text + "', kind", make("fault 0"), String.valueOf(kind));
        tell(how + " '" + text + "', place", make("fault 1"), String.valueOf(place));
        is("count 6", 0);
        tell(how + " '" + text + "' leaves the wall", alike(before, calls), true);
    }

    /** Whether all that an IMAGE holds is the same after both rows of calls. */
    boolean alike(List<String> some, List<String> others) {
        return look(some, some, false).equals(look(some, others, false));
    }

    void alike(String what, List<String> some, List<String> others, boolean want) {
        tell(what, alike(some, others), want);
    }

    // ---- looking at all that can be seen

    /** What walls show after some calls; which parts there are to be looked at is told by like ones. */
    private String look(List<String> like, List<String> some, boolean whole) {
        RedHands first = after(like);
        StringBuilder s = new StringBuilder();
        if (whole) {
            see(s, some, List.of(), List.of("upper", "lower", "fault 0", "fault 1", "count 6"));
            for (String how : new String[] {"law", "stories", "scrapers"}) {
                seeTape(s, some, how, first.count(6));
            }
            for (int tray = 0; tray < 4; tray++) {
                seeTray(s, some, tray, first.count(1));
            }
            for (int image = 0; image < 3; image++) {
                see(s, some, List.of("restore " + image), ofWall(first));
                see(s, some, List.of("restore " + image), ofFractions(first));
            }
        }
        see(s, some, List.of(), ofWall(first));
        see(s, some, List.of(), ofFractions(first));
        see(s, some, List.of("told 0 50 30 30 30 30"), ofWeights());
        return s.toString();
    }

    private RedHands after(List<String> some) {
        RedHands x = new RedHands();
        for (String call : some) {
            answer(x, call);
        }
        return x;
    }

    /** Answers of many calls, on as many walls as are needed. */
    private void see(StringBuilder s, List<String> some, List<String> ahead, List<String> many) {
        if (some.size() + ahead.size() + LOOKS > MOST_CALLS) {
            tell("a run that leaves no room to look", some.size(), "shorter");
        }
        for (int from = 0; from < many.size(); from += LOOKS) {
            RedHands x = after(some);
            for (String call : ahead) {
                s.append(answer(x, call)).append('|');
            }
            for (int i = from; i < Math.min(many.size(), from + LOOKS); i++) {
                s.append(answer(x, many.get(i))).append(' ');
            }
        }
    }

    private void seeTape(StringBuilder s, List<String> some, String how, int bytes) {
        List<String> many = new ArrayList<>(List.of("fault 0", "fault 1", "follow 99 0", "follow 99 -1"));
        for (int i = 0; i < 15; i++) {
            many.add("count " + i);
        }
        see(s, some, List.of(how + " " + bytes), many);
    }

    /** A TRAY is seen by what weights() and pour() make of it, by how long it is, and by how it cuts. */
    private void seeTray(StringBuilder s, List<String> some, int tray, int skins) {
        see(s, some, List.of(), List.of("write " + tray + " 0 81985529216486895", "write " + tray + " 0 -1"));
        List<String> places = new ArrayList<>();
        for (int place = 0; place <= 40; place++) {
            places.add("write " + tray + " " + place + " 0");
        }
        see(s, some, List.of(), places);
        see(s, some, List.of("told 0 50 30 30 30 30", "weights false " + tray), ofWeights());
        List<String> layers = new ArrayList<>();
        for (int layer = 0; layer < 4; layer++) {
            layers.add("span " + skins + " " + layer + " false");
            layers.add("span " + skins + " " + layer + " true");
        }
        see(s, some, List.of("skin 0 0 0 1", "pour " + skins + " " + tray), layers);
    }

    /** Weights are seen by thumbs of which each PART is left, DUE being the 50 of a TOLD HAND. */
    private static List<String> ofWeights() {
        List<String> many = new ArrayList<>();
        for (int part = 0; part < 5; part++) {
            many.addAll(Arrays.asList("fingers 0 " + 5 * part + " 30 30 30 30", "bent 0 0", "upper", "lower"));
        }
        return many;
    }

    private static List<String> ofWall(RedHands x) {
        List<String> many = new ArrayList<>();
        for (int i = 0; i < 135; i++) {
            if (i != 6 && (i < 16 || i > 98)) {
                many.add("count " + i);
            }
        }
        int paints = x.count(0);
        for (int p = 0; p < paints; p++) {
            for (int i = 0; i < 9; i++) {
                many.add("of " + p + " " + i);
            }
            many.addAll(Arrays.asList("bound " + p + " false", "bound " + p + " true", "ring " + p, "rests " + p,
                    "say " + p, "times " + p + " 0", "times " + p + " 1", "times " + p + " 2", "stumps " + p));
            for (int i = 0; i < 6; i++) {
                many.add("alone " + p + " " + i);
                many.add("like " + p + " " + (i - 1));
                many.add("due " + p + " " + i);
            }
            for (int q = 0; q < paints && q < 6; q++) {
                many.add("above " + p + " " + q);
            }
        }
        for (int k = 0; k < x.count(1); k++) {
            many.add("sort " + k);
            many.add("says " + k);
            for (int i = 0; i < 4; i++) {
                many.add("span " + k + " " + i + " false");
                many.add("span " + k + " " + i + " true");
            }
        }
        for (int i = -1; i < 4; i++) {
            many.addAll(Arrays.asList("clash " + i, "follow 999 " + i, "follow 12 " + i));
        }
        many.addAll(Arrays.asList("plan 999 0", "plan 999 1", "plan 999 2", "plan 8 0", "behind 999", "behind 8",
                "age 100 1000 90 50", "trial 20 1000 90 50 9"));
        for (int what = 0; what < 10; what++) {
            many.add("spread " + what);
            many.add("first " + what);
        }
        return many;
    }

    private static List<String> ofFractions(RedHands x) {
        List<String> many = new ArrayList<>(List.of("many 1"));
        for (int k = 0; k < x.count(1); k++) {
            many.add("leaked " + k);
        }
        for (int p = 0; p < x.count(0) && p < 5; p++) {
            for (int i = 0; i < 6; i++) {
                many.addAll(Arrays.asList("whose " + p + " " + i, "ringed " + p + " " + i, "bent " + p + " " + i,
                        "who " + p + " " + i, "older " + p + " " + 5 * i));
            }
        }
        List<String> withParts = new ArrayList<>();
        for (String call : many) {
            withParts.addAll(Arrays.asList(call, "upper", "lower"));
        }
        return withParts;
    }

    // ---- a call

    private String answer(RedHands x, String call) {
        Object[] told = arguments.computeIfAbsent(call, this::argumentsOf);
        Method method = (Method) told[0];
        try {
            return String.valueOf(method.invoke(x, Arrays.copyOfRange(told, 1, told.length)));
        } catch (InvocationTargetException e) {
            String thrown = "throws." + e.getCause().getClass().getSimpleName();
            if (!THROWN.contains(thrown)) {
                tell(call, thrown, "one of " + THROWN);
            }
            throwers.computeIfAbsent(method.getName(), name -> new TreeSet<>()).add(thrown.substring("throws.".length()));
            return thrown;
        } catch (IllegalAccessException e) {
            throw new IllegalStateException(e);
        }
    }

    private Object[] argumentsOf(String call) {
        String[] words = call.split(" ");
        Method method = methods.get(words[0]);
        if (method == null || method.getParameterCount() != words.length - 1) {
            throw new IllegalStateException("no such call: " + call);
        }
        Class<?>[] types = method.getParameterTypes();
        Object[] told = new Object[words.length];
        told[0] = method;
        for (int i = 1; i < words.length; i++) {
            Class<?> type = types[i - 1];
            if (type == boolean.class && !words[i].equals("true") && !words[i].equals("false")) {
                throw new IllegalStateException("no boolean: " + call);
            }
            told[i] = type == boolean.class ? (Object) Boolean.valueOf(words[i])
                    : type == long.class ? (Object) Long.valueOf(words[i]) : (Object) Integer.valueOf(words[i]);
        }
        return told;
    }

    /** What each call threw is just what the document's face says of it. */
    private void throwersAreAll() {
        about = "the public face";
        Matcher m = Pattern.compile("public \\w+ (\\w+)\\([^)]*\\)( throws ([\\w, ]+))?;").matcher(document);
        int found = 0;
        while (m.find()) {
            TreeSet<String> due = new TreeSet<>();
            if (m.group(3) != null) {
                due.addAll(Arrays.asList(m.group(3).split(", ")));
            }
            tell(m.group(1) + " throws", throwers.getOrDefault(m.group(1), new TreeSet<>()), due);
            found++;
        }
        tell("calls of the face", found, methods.size());
    }

    void end(String name) {
        if (document != null) {
            throwersAreAll();
        }
        for (int n = 1; n <= PROMISES; n++) {
            about = "promise " + n;
            tell("has a run", promises.contains(n), true);
        }
        System.out.println(name + ": " + right + " answers are as due, " + wrong + " are not");
        if (wrong != 0) {
            System.exit(1);
        }
    }
}
