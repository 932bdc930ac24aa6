import java.util.ArrayList;
import java.util.List;

/**
 * Whether a call changed nothing: two objects have the same calls behind them, one of both has that call
 * more, and both are asked all that can be asked, and made to do this and that. So what a call left behind
 * is seen even if the digest does not show it. No object has more than 512 calls.
 */
final class Twins {
    private static final List<List<Calls.Call>> ASKED = List.of(stores(), watchers(), book(), snapshots(), acts());

    private Twins() {
    }

    static void same(int promise, List<Calls.Call> before, Calls.Call call) {
        for (List<Calls.Call> questions : ASKED) {
            if (before.size() + 1 + questions.size() > Calls.MOST) {
                Check.due(promise, "too many calls: " + call.text(), "at most 512");
                return;
            }
            TimeStore touched = Calls.made(before);
            Calls.answer(touched, call);
            TimeStore untouched = Calls.made(before);
            for (Calls.Call question : questions) {
                String got = Calls.answer(touched, question);
                String want = Calls.answer(untouched, question);
                if (!got.equals(want)) {
                    String behind = " to " + question.text() + " behind " + call.text();
                    Check.due(promise, got + behind, want + behind);
                    return;
                }
            }
        }
        Check.due(promise, true, true);
    }

    private static List<Calls.Call> stores() {
        StringBuilder text = new StringBuilder("digest;");
        for (int store = 0; store < 2; store++) {
            for (int key : new int[] {0, 1, 2, 3, 39}) {
                for (int known : new int[] {0, 1, 2, 3, 4, 9, 999}) {
                    text.append("line " + store + " " + key + " " + known + ";");
                }
                text.append("words " + store + " " + key + " 10; word " + store + " " + key + " 10 0 1;");
            }
            for (int minute = 0; minute < 20; minute++) {
                text.append("endingsAt " + store + " " + minute + ";");
            }
        }
        return Calls.read(text.toString());
    }

    private static List<Calls.Call> watchers() {
        StringBuilder text = new StringBuilder();
        for (int store = 0; store < 2; store++) {
            for (int key : new int[] {0, 1, 2, 3, 39}) {
                for (int place = 0; place < 12; place++) {
                    text.append("watcherAt " + store + " " + key + " " + place + ";");
                }
            }
        }
        return Calls.read(text.toString());
    }

    private static List<Calls.Call> book() {
        StringBuilder text = new StringBuilder();
        for (int key : new int[] {0, 1, 2, 39}) {
            for (int minute : new int[] {0, 10, 20, 30, 999}) {
                for (int known : new int[] {0, 1, 2, 9, 999}) {
                    text.append("bookRead " + key + " " + minute + " " + known + ";");
                    text.append("bookBy " + key + " " + minute + " " + known + ";");
                }
            }
        }
        return Calls.read(text.toString());
    }

    private static List<Calls.Call> snapshots() {
        StringBuilder text = new StringBuilder();
        for (int snap = 0; snap < 6; snap++) {
            for (int other = 0; other < 6; other++) {
                text.append("snapDiffer " + snap + " " + other + ";");
            }
            for (int key : new int[] {0, 1, 2, 39}) {
                text.append("snapRead " + snap + " " + key + " 9; snapRead " + snap + " " + key + " 25;");
            }
            text.append("snapNext " + snap + "; ofSnap " + snap + " 6; ofSnap " + snap + " 7;");
            text.append("rewind " + snap + "; snapNext " + snap + "; ofSnap " + snap + " 5;");
        }
        return Calls.read(text.toString());
    }

    /** What a call left in a row, or in a count that no question tells, comes to light by these. */
    private static List<Calls.Call> acts() {
        List<String> acts = new ArrayList<>(List.of("watcher 1 1", "watcher 2 0", "watcher 3 2"));
        for (int store = 0; store < 2; store++) {
            for (int number = 0; number < 12; number++) {
                acts.add("watch " + number + " " + store + " 0");
            }
            for (int key : new int[] {0, 1, 39}) {
                acts.add("tell " + store + " " + key + " 10 3");
                acts.add("tell " + store + " " + key + " 500 4");
                acts.add("tellSpan " + store + " " + key + " 3 700 5");
                acts.add("end " + store + " " + key + " 15");
                acts.add("takeBack " + store + " " + key + " 20");
                acts.add("endAt " + store + " " + key + " 990");
            }
            acts.add("digest");
            acts.add("tick " + store + " 1");
            acts.add("tellSpan " + store + " 0 3 700 6");
            acts.add("tell " + store + " 0 500 7");
            acts.add("window " + store + " 0 0 999");
            acts.add("snap " + store + " 0");
            acts.add("gather " + store);
            acts.add("wouldForget " + store + " 1");
            acts.add("digest");
        }
        acts.addAll(List.of("trim 0 10", "shut 0", "window 0 0 3 4", "drop 0", "snap 0 9", "knock",
                "forget 0 1", "forget 0 10", "tick 0 3", "emptyBook", "digest"));
        return Calls.read(String.join(";", acts));
    }
}
