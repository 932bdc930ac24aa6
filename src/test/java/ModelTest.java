import java.lang.reflect.InvocationTargetException;
import java.lang.reflect.Method;
import java.util.ArrayList;
import java.util.Arrays;
import java.util.List;
import java.util.Random;
import java.util.TreeMap;

/** Runs of calls, drawn by fixed seeds, on a TimeStore and on a SlowStore: both must answer alike. */
final class ModelTest {
    private static final int RUNS = 300;
    // With the digests between them no object has more than 512 calls.
    private static final int CALLS = 490;

    // How often a method is drawn, its name, and a sign for each argument (see draw).
    private static final String[] FACE = {
        "40 tell skmv", "14 tellSpan skmmv", "8 end skm", "12 takeBack skm", "2 tamper skmv", "16 tick st",
        "8 endAt skm", "2 endNever sk", "4 watcher Kn", "10 watch wsk", "3 unwatch wsk", "4 window skmm",
        "2 narrow Wmm", "2 trim Wm", "1 shut W", "4 snap sm", "4 snapNext S", "1 rewind S", "2 drop S",
        "5 forget sm", "3 gather s", "1 emptyBook", "1 knock", "6 read skmm", "2 readNow sk",
        "4 spotOf skmmq", "2 bound skmb", "3 line skm", "2 lasts skma", "2 differ skmm", "2 changes skm",
        "2 firstKnown skma", "2 words skm", "2 word skmpq", "1 nextEnding s", "2 endingsAt sm",
        "2 ending sp", "2 endingOf sk", "2 watching sk", "2 watcherAt skp", "2 heard wq", "3 ofWindow Wq",
        "4 windowRead Wmm", "3 snapRead Skm", "3 ofSnap Sq", "2 snapDiffer SS", "2 journal sm",
        "2 entry spq", "4 rebuiltRead skmm", "4 bookRead kmm", "4 bookBy kmm", "1 ofBook q",
        "4 joinedRead kmmb", "1 joinedWords q", "3 ofStore sq", "1 house q", "4 wouldSpan skmm",
        "2 wouldForget sm", "1 isSound", "2 digest",
    };

    // What is drawn so much more often in every fourth run: stores become full, and words are missed.
    private static final String[] BUSY = {
        "120 tell skmv", "66 tellSpan skmmv", "22 end skm", "18 takeBack skm", "24 tick st", "52 endAt skm",
        "10 watcher Kn", "40 watch wsk",
    };

    private static final List<String[]> quiet = new ArrayList<>();
    private static final List<String[]> busy = new ArrayList<>();
    private static final TreeMap<String, Method> fast = new TreeMap<>();
    private static final TreeMap<String, Method> slow = new TreeMap<>();
    private static final TreeMap<String, Integer> answered = new TreeMap<>();

    public static void main(String[] args) throws ReflectiveOperationException {
        add(FACE, quiet);
        add(FACE, busy);
        add(BUSY, busy);
        for (Method method : TimeStore.class.getMethods()) {
            if (method.getDeclaringClass() == TimeStore.class) {
                fast.put(method.getName(), method);
            }
        }
        for (Method method : SlowStore.class.getDeclaredMethods()) {
            if (java.lang.reflect.Modifier.isPublic(method.getModifiers())) {
                method.setAccessible(true);
                slow.put(method.getName(), method);
            }
        }
        for (int seed = 0; seed < RUNS; seed++) {
            run(seed);
        }
        for (String name : fast.keySet()) {
            // A method that never answered with a number was not tested by this.
            Check.due(61, answered.getOrDefault(name, 0) > 0 ? name : "never answered: " + name, name);
        }
        Check.finish();
    }

    private static void add(String[] rows, List<String[]> drawn) {
        for (String row : rows) {
            String[] parts = row.split(" ");
            for (int times = Integer.parseInt(parts[0]); times > 0; times--) {
                drawn.add(new String[] {parts[1], parts.length > 2 ? parts[2] : ""});
            }
        }
    }

    private static void run(int seed) throws ReflectiveOperationException {
        Random random = new Random(seed);
        TimeStore x = new TimeStore();
        SlowStore y = new SlowStore();
        // Few keys and minutes let words meet; many let a store become full.
        int keys = new int[] {1, 2, 4, 12, 40}[random.nextInt(5)];
        int minutes = new int[] {4, 12, 60, 1000}[random.nextInt(4)];
        int steps = new int[] {2, 6, 30, 200}[random.nextInt(4)];
        boolean isWild = random.nextInt(4) == 0;
        List<String[]> drawn = seed % 4 == 3 ? busy : quiet;
        List<String> calls = new ArrayList<>();
        for (int call = 0; call < CALLS; call++) {
            String[] what = drawn.get(random.nextInt(drawn.size()));
            Object[] arguments = new Object[what[1].length()];
            for (int place = 0; place < arguments.length; place++) {
                int clock = y.ofStore(random.nextInt(2), random.nextInt(2));
                arguments[place] = draw(random, what[1].charAt(place), keys, minutes, steps, clock);
                if (isWild && random.nextInt(30) == 0 && arguments[place] instanceof Integer) {
                    arguments[place] = wild(random);
                }
            }
            calls.add(what[0] + Arrays.toString(arguments));
            Object got = answer(fast.get(what[0]), x, arguments);
            Object want = answer(slow.get(what[0]), y, arguments);
            if (!got.equals(want)) {
                System.out.println("seed " + seed + ": " + calls);
            }
            Check.due(61, got, want);
            if (!got.equals(want)) {
                return;
            }
            if (!(got instanceof Class)) {
                answered.merge(what[0], 1, Integer::sum);
            }
            if (call % 25 == 24) {
                Check.due(61, x.digest(), y.digest());
            }
        }
    }

    private static Object answer(Method method, Object object, Object[] arguments)
            throws ReflectiveOperationException {
        try {
            return method.invoke(object, arguments);
        } catch (InvocationTargetException thrown) {
            return thrown.getCause().getClass();
        }
    }

    private static Object draw(Random random, char sign, int keys, int minutes, int steps, int clock) {
        switch (sign) {
            case 's':
                return random.nextInt(2);
            case 'k':
                return random.nextInt(keys);
            case 'm':
                // Near a clock or horizon as often as near 0, else most minutes would not be known.
                int near = random.nextInt(minutes);
                return random.nextInt(3) == 0 ? near : Math.min(999, Math.max(-1, clock - 3 + near % 8));
            case 'v':
                return random.nextInt(4) == 0 ? random.nextInt(100) : random.nextInt(3);
            case 'a':
                return random.nextInt(4) - 1;
            case 't':
                return 1 + random.nextInt(steps);
            case 'K':
                return random.nextInt(4);
            case 'n':
                return random.nextInt(2) == 0 ? random.nextInt(keys) : random.nextInt(40);
            case 'w':
                return random.nextInt(random.nextInt(12) + 1);
            case 'W':
            case 'S':
                return random.nextInt(random.nextInt(6) + 1);
            case 'q':
                return random.nextInt(random.nextInt(9) + 1);
            case 'p':
                return random.nextInt(random.nextInt(130) + 1);
            default:
                return random.nextBoolean();
        }
    }

    private static int wild(Random random) {
        int[] all = {-1, -2, -9, 2, 39, 40, 41, 99, 100, 101, 119, 120, 199, 200, 201, 998, 999, 1000, 1001,
            1023, 1024, 65536, Integer.MAX_VALUE, Integer.MIN_VALUE};
        return all[random.nextInt(all.length)];
    }
}
