import java.io.IOException;
import java.lang.reflect.Constructor;
import java.lang.reflect.Field;
import java.lang.reflect.Member;
import java.lang.reflect.Method;
import java.lang.reflect.Modifier;
import java.nio.charset.StandardCharsets;
import java.nio.file.Files;
import java.nio.file.Path;
import java.util.ArrayList;
import java.util.List;
import java.util.TreeMap;
import java.util.TreeSet;
import java.util.regex.Matcher;
import java.util.regex.Pattern;

/** The document's face, and those rules of LANGUAGE.md that can be seen in the class and in its text. */
final class FaceTest {
    private static final String FACE = """
        public final class TimeStore {
        public TimeStore();
        public int tell(int store, int key, int from, int value) throws IndexOutOfBoundsException, IllegalArgumentException, IllegalStateException;
        public int tellSpan(int store, int key, int from, int to, int value) throws IndexOutOfBoundsException, IllegalArgumentException, IllegalStateException;
        public int end(int store, int key, int from) throws IndexOutOfBoundsException, IllegalArgumentException, IllegalStateException;
        public int takeBack(int store, int key, int from) throws IndexOutOfBoundsException, IllegalArgumentException, IllegalStateException;
        public int tamper(int store, int key, int from, int value) throws IndexOutOfBoundsException, IllegalArgumentException;
        public int tick(int store, int minutes) throws IndexOutOfBoundsException, IllegalArgumentException, IllegalStateException;
        public int endAt(int store, int key, int minute) throws IndexOutOfBoundsException, IllegalArgumentException, IllegalStateException;
        public int endNever(int store, int key) throws IndexOutOfBoundsException;
        public int watcher(int kind, int number) throws IllegalArgumentException, IllegalStateException;
        public boolean watch(int watcher, int store, int key) throws IndexOutOfBoundsException;
        public boolean unwatch(int watcher, int store, int key) throws IndexOutOfBoundsException;
        public int window(int store, int key, int from, int to) throws IndexOutOfBoundsException, IllegalArgumentException, IllegalStateException;
        public int narrow(int window, int from, int to) throws IndexOutOfBoundsException, IllegalArgumentException;
        public int trim(int window, int from) throws IndexOutOfBoundsException, IllegalArgumentException;
        public int shut(int window) throws IndexOutOfBoundsException;
        public int snap(int store, int known) throws IndexOutOfBoundsException, IllegalArgumentException, IllegalStateException;
        public int snapNext(int snap) throws IndexOutOfBoundsException;
        public int rewind(int snap) throws IndexOutOfBoundsException;
        public int drop(int snap) throws IndexOutOfBoundsException;
        public int forget(int store, int known) throws IndexOutOfBoundsException, IllegalArgumentException, IllegalStateException;
        public int gather(int store) throws IndexOutOfBoundsException;
        public int emptyBook();
        public int knock();
        public int read(int store, int key, int minute, int known) throws IndexOutOfBoundsException, IllegalArgumentException, IllegalStateException;
        public int readNow(int store, int key) throws IndexOutOfBoundsException;
        public int spotOf(int store, int key, int minute, int known, int what) throws IndexOutOfBoundsException, IllegalArgumentException, IllegalStateException;
        public int bound(int store, int key, int known, boolean isLast) throws IndexOutOfBoundsException, IllegalArgumentException, IllegalStateException;
        public String line(int store, int key, int known) throws IndexOutOfBoundsException, IllegalArgumentException, IllegalStateException;
        public int lasts(int store, int key, int known, int value) throws IndexOutOfBoundsException, IllegalArgumentException, IllegalStateException;
        public int differ(int store, int key, int known, int other) throws IndexOutOfBoundsException, IllegalArgumentException, IllegalStateException;
        public int changes(int store, int key, int minute) throws IndexOutOfBoundsException, IllegalArgumentException;
        public int firstKnown(int store, int key, int minute, int value) throws IndexOutOfBoundsException, IllegalArgumentException;
        public int words(int store, int key, int from) throws IndexOutOfBoundsException, IllegalArgumentException;
        public int word(int store, int key, int from, int place, int what) throws IndexOutOfBoundsException, IllegalArgumentException;
        public int nextEnding(int store) throws IndexOutOfBoundsException;
        public int endingsAt(int store, int minute) throws IndexOutOfBoundsException, IllegalArgumentException;
        public int ending(int store, int place) throws IndexOutOfBoundsException;
        public int endingOf(int store, int key) throws IndexOutOfBoundsException;
        public int watching(int store, int key) throws IndexOutOfBoundsException;
        public int watcherAt(int store, int key, int place) throws IndexOutOfBoundsException;
        public int heard(int watcher, int what) throws IndexOutOfBoundsException, IllegalArgumentException;
        public int ofWindow(int window, int what) throws IndexOutOfBoundsException, IllegalArgumentException;
        public int windowRead(int window, int minute, int known) throws IndexOutOfBoundsException, IllegalArgumentException, IllegalStateException;
        public int snapRead(int snap, int key, int minute) throws IndexOutOfBoundsException, IllegalArgumentException;
        public int ofSnap(int snap, int what) throws IndexOutOfBoundsException, IllegalArgumentException;
        public int snapDiffer(int snap, int other) throws IndexOutOfBoundsException;
        public int journal(int store, int known) throws IndexOutOfBoundsException, IllegalArgumentException;
        public int entry(int store, int place, int what) throws IndexOutOfBoundsException, IllegalArgumentException;
        public int rebuiltRead(int store, int key, int minute, int known) throws IndexOutOfBoundsException, IllegalArgumentException, IllegalStateException;
        public int bookRead(int key, int minute, int known) throws IndexOutOfBoundsException, IllegalArgumentException;
        public int bookBy(int key, int minute, int known) throws IndexOutOfBoundsException, IllegalArgumentException;
        public int ofBook(int what) throws IllegalArgumentException;
        public int joinedRead(int key, int minute, int known, boolean isOtherFirst) throws IndexOutOfBoundsException, IllegalArgumentException;
        public int joinedWords(int what) throws IllegalArgumentException;
        public int ofStore(int store, int what) throws IndexOutOfBoundsException, IllegalArgumentException;
        public int house(int what) throws IllegalArgumentException;
        public int wouldSpan(int store, int key, int from, int to) throws IndexOutOfBoundsException, IllegalArgumentException;
        public int wouldForget(int store, int known) throws IndexOutOfBoundsException, IllegalArgumentException, IllegalStateException;
        public boolean isSound();
        public long digest();
        }
        """;

    public static void main(String[] args) throws IOException {
        face();
        hidden();
        text();
        methods();
        Check.finish();
    }

    private static void face() {
        TreeSet<String> got = new TreeSet<>();
        got.add(Modifier.toString(TimeStore.class.getModifiers()) + " class TimeStore {");
        got.add("}");
        for (Constructor<?> constructor : TimeStore.class.getDeclaredConstructors()) {
            got.add(constructor + ";");
        }
        for (Method method : TimeStore.class.getDeclaredMethods()) {
            if (!Modifier.isPrivate(method.getModifiers())) {
                got.add(method.toString().replace("TimeStore.", "") + ";");
            }
        }
        TreeSet<String> want = new TreeSet<>();
        for (String line : FACE.strip().split("\n")) {
            String types = line.strip().replaceAll("(int|boolean) \\w+(?=[,)])", "$1").replace(", ", ",");
            want.add(types.replaceAll("(Index|Illegal)", "java.lang.$1").replace("String ", "java.lang.String "));
        }
        Check.due(1, got, want);
    }

    private static void hidden() {
        List<Member> members = new ArrayList<>(List.of(TimeStore.class.getDeclaredFields()));
        for (Member member : members) {
            Check.due(1, member + " private " + Modifier.isPrivate(member.getModifiers()), member + " private true");
        }
        TreeSet<String> open = new TreeSet<>();
        TreeSet<String> closed = new TreeSet<>();
        List<Class<?>> classes = new ArrayList<>(List.of(TimeStore.class.getDeclaredClasses()));
        classes.add(TimeStore.class);
        for (Class<?> each : classes) {
            int fields = 0;
            for (Field field : each.getDeclaredFields()) {
                boolean isStatic = Modifier.isStatic(field.getModifiers());
                fields += isStatic ? 0 : 1;
                Check.due(1, !isStatic || Modifier.isFinal(field.getModifiers()), true);
            }
            Check.due(1, each + " has few fields " + (fields <= 20), each + " has few fields true");
            for (Method method : each.getDeclaredMethods()) {
                (Modifier.isPublic(method.getModifiers()) ? open : closed).add(method.getName());
                Check.due(1, method.getParameterCount() <= 7, true);
            }
            Check.due(1, each == TimeStore.class || Modifier.isStatic(each.getModifiers())
                    && !Modifier.isPublic(each.getModifiers()), true);
        }
        closed.retainAll(open);
        Check.due(1, closed.toString(), "[]");
        Check.due(1, classes.size() <= 12, true);
    }

    /** The class without its comments and texts, which may hold any word. */
    private static String code() throws IOException {
        String text = Files.readString(Path.of("src/main/java/TimeStore.java"), StandardCharsets.US_ASCII);
        return text.replaceAll("(?s)/\\*.*?\\*/", "").replaceAll("//.*", "").replaceAll("\"[^\"]*\"", "T");
    }

    private static void text() throws IOException {
        String code = code();
        String[] forbidden = {"\\btry\\b", "\\bcatch\\b", "\\bfinally\\b", "->", "::", "Exact\\b",
            "\\bsynchronized\\b", "\\bassert\\b", "\\bpackage\\b", "\\bvar\\b", "\\bstatic \\{",
            "\\bequals\\b", "\\bhashCode\\b", "\\bfloat\\b", "\\bdouble\\b", "T \\+", "\\+ T",
            "\\bimport (?!java\\.util\\.Arrays;)", "\\b(Object|Map|Set|Random|Thread|Scanner|Files|Class)\\b",
            "System\\.(?!arraycopy)", "Arrays\\.(?!copyOf|copyOfRange|fill|\\w*;)"};
        for (String pattern : forbidden) {
            Matcher matcher = Pattern.compile(pattern).matcher(code);
            Check.due(1, matcher.find() ? "there is " + matcher.group() : "none", "none");
        }
    }

    /** Rules 8 and 11: short methods, no recursion, and calls that go at most eight deep. */
    private static void methods() throws IOException {
        TreeMap<String, String> bodies = new TreeMap<>();
        Pattern method = Pattern.compile("(?ms)^( {4}| {8})(?! )[\\w\\[\\] ]+ (\\w+)\\([^;{}]*\\{\\n.*?^\\1\\}$");
        Matcher matcher = method.matcher(code());
        while (matcher.find()) {
            Check.due(1, matcher.group().lines().count() <= 60 ? "short" : matcher.group(2), "short");
            // Methods of the same name count as one that does what all of them do.
            String body = matcher.group().substring(matcher.group().indexOf('{'));
            bodies.merge(matcher.group(2), body, String::concat);
        }
        for (Method each : TimeStore.class.getDeclaredMethods()) {
            Check.due(1, bodies.containsKey(each.getName()) ? "found" : each.getName(), "found");
        }
        for (String name : bodies.keySet()) {
            Check.due(1, depth(name, bodies, 1) <= 8 ? "at most 8 deep" : name, "at most 8 deep");
        }
    }

    private static int depth(String name, TreeMap<String, String> bodies, int above) {
        int deepest = 0;
        Matcher called = Pattern.compile("(\\w+)\\(").matcher(bodies.get(name));
        while (above <= 8 && called.find()) {
            if (bodies.containsKey(called.group(1))) {
                deepest = Math.max(deepest, depth(called.group(1), bodies, above + 1));
            }
        }
        return above <= 8 ? deepest + 1 : 1;
    }
}
