import java.math.BigInteger;
import java.util.ArrayList;
import java.util.List;

/**
 * Promise 61: the digest, number by number by the questions that the promise names, in numbers without a
 * bound, of which only at the end 64 bits are left. No object has more than 512 calls.
 */
final class DigestTest {
    private static final int AT_ONCE = 150;
    private static final BigInteger BOUND = BigInteger.ONE.shiftLeft(63);

    private static final String[] SCENES = {
        "",
        "knock",
        "fill 0 120; fill 1 120",
        "endAt 0 K 7; endAt 1 K 999; ticks 0 6; endAt 0 3 8; endAt 0 4 7; endNever 1 0",
        "12x watcher 3 39; watch W 0 0; watch W 1 39; tell 0 0 0 99; end 1 39 999; tick 0 40; unwatch 5 0 0",
        "tell 0 5 10 1; tell 1 5 10 2; 3x window 0 5 0 999; 3x window 1 5 11 12; shut 0; trim 0 11; narrow 4 12 12",
        "tell 0 5 999 1; end 0 0 0; tick 0 2; tell 0 5 999 2; 3x snap 0 0; 2x snap 0 2; snap 1 0; 2x snapNext 0; "
            + "snapNext 3; drop 1",
        "tell 0 5 10 1; gather 0; tick 0 1; takeBack 0 5 10; tell 1 5 10 3; gather 1; forget 0 1; tell 0 39 0 0",
        "fill 0 118; watcher 1 5; watcher 2 0; watch 0 0 0; watch 1 0 0; tell 0 0 5 9; tell 0 0 6 9; gather 0",
        "ticks 0 999; ticks 1 998; tell 0 0 999 99; tell 1 0 999 98; endAt 1 0 999; snap 0 0; snap 0 999; forget 0 500",
        "tell 0 5 999 1; tell 0 5 998 2; tell 1 6 999 3; window 0 5 0 999; window 0 5 0 998; window 1 6 999 999; "
            + "snap 0 0; snap 1 0; gather 0; gather 1",
        "tell 0 5 10 1; tick 0 1; tell 0 5 10 2; gather 0; tick 0 1; tell 0 5 10 3; forget 0 1; tell 1 5 10 4",
        "tell 0 5 9 9; tell 0 5 10 10; tell 0 5 99 99; tell 0 5 100 0; tell 1 7 0 0; end 1 7 101",
        "ticks 0 999; tell 0 7 0 5; ticks 1 998; tell 1 7 0 6; gather 0; gather 1",
        "tick 0 5; tell 0 5 0 1; tick 0 5; tell 0 5 0 2; tick 0 5; end 0 5 3; forget 0 7; tick 0 1; takeBack 0 5 0",
    };

    private static int negative = 0;
    private static int positive = 0;

    public static void main(String[] args) {
        for (String scene : SCENES) {
            List<Calls.Call> before = Calls.read(scene);
            TimeStore x = Calls.made(before);
            BigInteger whole = whole(before);
            // It wrapped around, not just once.
            Check.due(61, whole.abs().compareTo(BOUND.multiply(BOUND)) > 0, true);
            Check.due(61, x.digest(), whole.longValue());
            Check.due(61, x.digest(), whole.longValue());
            negative += whole.longValue() < 0 ? 1 : 0;
            positive += whole.longValue() > 0 ? 1 : 0;
        }
        Check.due(61, negative > 0 && positive > 0, true);
        Check.finish();
    }

    private static BigInteger whole(List<Calls.Call> before) {
        BigInteger d = BigInteger.valueOf(4814);
        for (int v : all(before)) {
            d = d.multiply(BigInteger.valueOf(31)).add(BigInteger.valueOf(v));
        }
        return d;
    }

    private static int ask(TimeStore x, String question) {
        String answer = Calls.answer(x, Calls.read(question).get(0));
        return answer.equals("true") ? 1 : answer.equals("false") ? 0 : Integer.parseInt(answer);
    }

    /** The numbers in their order, asked of one new object after another. */
    private static List<Integer> all(List<Calls.Call> before) {
        List<String> questions = new ArrayList<>();
        range(questions, "house", 4);
        for (int store = 0; store < 2; store++) {
            ofStore(questions, before, store);
        }
        TimeStore x = Calls.made(before);
        int watchers = x.house(0);
        int windows = x.house(1);
        int snapshots = x.house(2);
        for (int watcher = 0; watcher < watchers; watcher++) {
            range(questions, "heard " + watcher, 5);
        }
        for (int window = 0; window < windows; window++) {
            range(questions, "ofWindow " + window, 6);
            int clock = x.ofStore(x.ofWindow(window, 0), 0);
            questions.add("windowRead " + window + " 999 " + clock);
        }
        for (int snap = 0; snap < snapshots; snap++) {
            range(questions, "ofSnap " + snap, 7);
            for (int key = 0; key < 40; key++) {
                questions.add("snapRead " + snap + " " + key + " 999");
            }
        }
        range(questions, "ofBook", 3);
        range(questions, "joinedWords", 2);
        for (int key = 0; key < 40; key++) {
            questions.add("bookRead " + key + " 999 999");
        }
        questions.add("isSound");
        return answers(before, questions);
    }

    private static void range(List<String> questions, String call, int greatest) {
        for (int what = 0; what <= greatest; what++) {
            questions.add(call + " " + what);
        }
    }

    private static void ofStore(List<String> questions, List<Calls.Call> before, int store) {
        TimeStore x = Calls.made(before);
        int clock = x.ofStore(store, 0);
        int horizon = x.ofStore(store, 1);
        int words = x.ofStore(store, 3);
        int endings = x.ofStore(store, 4);
        boolean[] has = new boolean[40];
        range(questions, "ofStore " + store, 6);
        for (int place = 0; place < words; place++) {
            range(questions, "entry " + store + " " + place, 3);
            has[x.entry(store, place, 1)] = true;
        }
        for (int place = 0; place < endings; place++) {
            questions.add("ending " + store + " " + place);
        }
        for (int key = 0; key < 40; key++) {
            String of = " " + store + " " + key;
            questions.add("endingOf" + of);
            questions.add("watching" + of);
            if (has[key]) {
                questions.add("readNow" + of);
                questions.add("read" + of + " 999 " + horizon);
                questions.add("lasts" + of + " " + clock + " -1");
                questions.add("differ" + of + " " + horizon + " " + clock);
                questions.add("changes" + of + " " + clock);
                questions.add("line" + of + " " + clock);
            }
        }
    }

    private static List<Integer> answers(List<Calls.Call> before, List<String> questions) {
        List<Integer> all = new ArrayList<>();
        TimeStore x = null;
        for (int place = 0; place < questions.size(); place++) {
            x = place % AT_ONCE == 0 ? Calls.made(before) : x;
            String question = questions.get(place);
            if (question.startsWith("line ")) {
                // The marks around the line are not its own.
                all.add(Calls.answer(x, Calls.read(question).get(0)).length() - 2);
            } else {
                all.add(ask(x, question));
            }
        }
        Check.due(61, before.size() + AT_ONCE <= Calls.MOST, true);
        return all;
    }
}
