import java.util.ArrayList;
import java.util.List;

/**
 * What is too small or too large for each argument of each method, and which exception goes ahead if
 * several apply. A row is a promise's number, a call that is served, and for each argument what it throws
 * outside of which range ("-" for one that may be anything). A refused call must change nothing.
 */
final class RangeTest {
    /** Both stores, watchers, endings, windows, snapshots, book: all have something, none is full. */
    private static final String SCENE = """
        tell 0 0 10 1; tell 0 0 20 2; tell 0 1 0 99; tell 0 39 10 7; tell 0 0 0 3; tell 0 0 999 4;
        tell 1 0 10 5; tell 1 0 20 6; tell 1 39 500 6; tell 0 39 20 8;
        watcher 1 3; watcher 2 0; watcher 3 14; watch 0 0 2; watch 1 0 3; watch 2 0 2; watch 2 1 39;
        tick 0 2; end 0 0 20; tell 0 0 30 3; tell 0 2 15 8; tick 1 3; tell 0 3 7 4; tell 1 39 500 9;
        forget 0 2; forget 1 1; gather 0; gather 1; tick 0 4; takeBack 0 0 20; tick 0 3; tick 1 7;
        endAt 0 0 50; endAt 0 39 50; endAt 0 1 12;
        window 0 0 5 25; window 0 0 0 999; window 1 39 500 500;
        snap 0 3; snap 0 9; snap 1 5; snapNext 0; snapNext 0; snapNext 1; knock;
        watcher 0 0; watch 3 1 2; watch 3 0 0; watch 3 0 39
        """;

    // Store 0: clock 9, horizon 2, 12 words, 4 endings. Store 1: clock 10, horizon 1.
    private static final String RANGES = """
        2 tell 0 0 700 1 | index 0 1 | index 0 39 | argument 0 999 | argument 0 99
        3 tellSpan 0 0 5 999 1 | index 0 1 | index 0 39 | argument 0 998 | argument 6 999 | argument 0 99
        4 end 0 0 700 | index 0 1 | index 0 39 | argument 0 999
        5 takeBack 0 0 10 | index 0 1 | index 0 39 | argument 0 999
        6 tamper 0 0 10 1 | index 0 1 | index 0 39 | argument 0 999 | argument 0 99
        7 tick 0 9 | index 0 1 | argument 1 200
        8 endAt 0 0 700 | index 0 1 | index 0 39 | argument 0 999 state 10 999
        8 endAt 1 0 700 | index 0 1 | index 0 39 | argument 0 999 state 11 999
        9 endNever 0 0 | index 0 1 | index 0 39
        10 watcher 0 0 | argument 0 3 | argument 0 39
        11 watch 0 0 7 | index 0 3 | index 0 1 | index 0 39
        12 unwatch 0 0 2 | index 0 3 | index 0 1 | index 0 39
        13 window 0 0 500 501 | index 0 1 | index 0 39 | argument 0 999 | argument 0 999
        14 narrow 0 6 24 | index 0 2 | argument 0 999 | argument 0 999
        15 trim 0 6 | index 0 2 | argument 0 999
        16 shut 0 | index 0 2
        17 snap 0 5 | index 0 1 | argument 0 999 state 2 9
        17 snap 1 5 | index 0 1 | argument 0 999 state 1 10
        18 snapNext 0 | index 0 2
        19 rewind 0 | index 0 2
        20 drop 0 | index 0 2
        21 forget 0 5 | index 0 1 | argument 0 999 state 2 9
        21 forget 1 5 | index 0 1 | argument 0 999 state 1 10
        22 gather 0 | index 0 1
        25 read 0 0 15 5 | index 0 1 | index 0 39 | argument 0 999 | argument 0 999 state 2 9
        25 read 1 0 15 5 | index 0 1 | index 0 39 | argument 0 999 | argument 0 999 state 1 10
        26 readNow 0 0 | index 0 1 | index 0 39
        27 spotOf 0 0 15 5 0 | index 0 1 | index 0 39 | argument 0 999 | argument 0 999 state 2 9 | argument 0 2
        28 bound 0 0 5 true | index 0 1 | index 0 39 | argument 0 999 state 2 9 | -
        29 line 0 0 5 | index 0 1 | index 0 39 | argument 0 999 state 2 9
        30 lasts 0 0 5 1 | index 0 1 | index 0 39 | argument 0 999 state 2 9 | argument -1 99
        31 differ 0 0 5 6 | index 0 1 | index 0 39 | argument 0 999 state 2 9 | argument 0 999 state 2 9
        32 changes 0 0 15 | index 0 1 | index 0 39 | argument 0 999
        33 firstKnown 0 0 15 1 | index 0 1 | index 0 39 | argument 0 999 | argument -1 99
        34 words 0 0 10 | index 0 1 | index 0 39 | argument 0 999
        35 word 0 0 20 0 1 | index 0 1 | index 0 39 | index 20 20 | index 0 1 | argument 0 1
        35 word 0 0 10 0 1 | index 0 1 | index 0 39 | index 10 10 | index 0 0 | argument 0 1
        36 nextEnding 0 | index 0 1
        37 endingsAt 0 50 | index 0 1 | argument -1 999
        38 ending 0 0 | index 0 1 | index 0 3
        39 endingOf 0 0 | index 0 1 | index 0 39
        40 watching 0 2 | index 0 1 | index 0 39
        41 watcherAt 0 2 0 | index 0 1 | index 0 39 | index 0 1
        42 heard 2 0 | index 0 3 | argument 0 5
        43 ofWindow 0 4 | index 0 2 | argument 0 6
        44 windowRead 0 15 5 | index 0 2 | argument 0 999 | argument 0 999 state 2 9
        44 windowRead 2 500 5 | index 0 2 | argument 0 999 | argument 0 999 state 1 10
        45 snapRead 0 0 15 | index 0 2 | index 0 39 | argument 0 999
        46 ofSnap 0 4 | index 0 2 | argument 0 7
        47 snapDiffer 0 1 | index 0 2 | index 0 2
        48 journal 0 5 | index 0 1 | argument 0 999
        49 entry 0 0 0 | index 0 1 | index 0 11 | argument 0 3
        50 rebuiltRead 0 0 15 5 | index 0 1 | index 0 39 | argument 0 999 | argument 0 999 state 2 9
        51 bookRead 0 15 5 | index 0 39 | argument 0 999 | argument 0 999
        52 bookBy 0 15 5 | index 0 39 | argument 0 999 | argument 0 999
        53 ofBook 0 | argument 0 3
        54 joinedRead 0 15 5 true | index 0 39 | argument 0 999 | argument 0 999 | -
        55 joinedWords 0 | argument 0 2
        56 ofStore 0 0 | index 0 1 | argument 0 6
        57 house 0 | argument 0 4
        58 wouldSpan 0 0 5 999 | index 0 1 | index 0 39 | argument 0 998 | argument 6 999
        59 wouldForget 0 5 | index 0 1 | argument 0 999 state 2 9
        59 wouldForget 1 5 | index 0 1 | argument 0 999 state 1 10
        """;

    // The order in which each promise names them.
    private static final List<String> ORDER = List.of("none", "index", "argument", "state");

    /** An argument's number outside of its range, and what this throws. */
    private record Wrong(int place, int number, String thrown) {
    }

    private static List<Calls.Call> scene;

    public static void main(String[] args) {
        scene = Calls.read(SCENE);
        TimeStore x = new TimeStore();
        for (Calls.Call call : scene) {
            Check.due(1, Calls.isException(Calls.answer(x, call)) ? call.text() : "served", "served");
        }
        for (String row : RANGES.split("\n")) {
            String[] parts = row.strip().split(" *\\| *");
            String[] call = parts[0].split(" ", 2);
            ranges(Integer.parseInt(call[0]), call[1].split(" "), parts);
        }
        Check.finish();
    }

    private static void ranges(int promise, String[] call, String[] parts) {
        Check.due(promise, parts.length, call.length);
        thrown(promise, call, "none");
        List<Wrong> all = new ArrayList<>();
        for (int place = 1; place < call.length; place++) {
            all.addAll(argument(promise, call, place, parts[place].split(" ")));
        }
        for (Wrong first : all) {
            thrown(promise, with(call, first), first.thrown);
            for (Wrong second : all) {
                if (second.place > first.place) {
                    thrown(promise, with(with(call, first), second), sooner(first.thrown, second.thrown));
                }
            }
        }
    }

    /** The last number on either side that is served, and what is wrong beyond them. */
    private static List<Wrong> argument(int promise, String[] call, int place, String[] range) {
        List<Wrong> wrong = new ArrayList<>();
        int least = Integer.MIN_VALUE;
        int greatest = Integer.MAX_VALUE;
        for (int part = 0; part + 2 < range.length; part += 3) {
            int low = Integer.parseInt(range[part + 1]);
            int high = Integer.parseInt(range[part + 2]);
            // Beyond the first range, and between that and the second, which lies within it.
            for (int number : new int[] {least, low - 1, high + 1, greatest}) {
                if ((number < low || number > high) && (part == 0 || number >= least && number <= greatest)) {
                    wrong.add(new Wrong(place, number, range[part]));
                }
            }
            least = low;
            greatest = high;
        }
        if (range.length > 1) {
            thrown(promise, with(call, new Wrong(place, least, "none")), "none");
            thrown(promise, with(call, new Wrong(place, greatest, "none")), "none");
        }
        return wrong;
    }

    private static String sooner(String one, String other) {
        return ORDER.indexOf(one) <= ORDER.indexOf(other) ? one : other;
    }

    private static String[] with(String[] call, Wrong wrong) {
        String[] other = call.clone();
        other[wrong.place] = String.valueOf(wrong.number);
        return other;
    }

    private static void thrown(int promise, String[] words, String want) {
        Calls.Call call = Calls.read(String.join(" ", words)).get(0);
        String got = Calls.answer(Calls.made(scene), call);
        String what = Calls.isException(got) ? got : "none";
        Check.due(promise, what + " by " + call.text(), want + " by " + call.text());
        if (!want.equals("none")) {
            Twins.same(promise, scene, call);
        }
    }
}
