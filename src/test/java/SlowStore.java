import java.util.ArrayList;
import java.util.List;
import java.util.TreeMap;
import java.util.TreeSet;

/**
 * The document once more, sentence by sentence and as slowly as it is said: each question goes through
 * all words and all minutes. ModelTest holds TimeStore against it. It shares no way of working with
 * TimeStore, so that a fault of the one is not the other's too.
 */
final class SlowStore {
    private record Word(int told, int key, int period, int says, int store) {
    }

    private record Entry(int key, int period, int says) {
    }

    private record Wish(int store, int key, int period, int says) {
    }

    private static final class Side {
        int number;
        int clock;
        int horizon;
        int missed;
        int left;
        List<Word> words = new ArrayList<>();
        List<int[]> endings = new ArrayList<>();
        List<List<Integer>> watchers = new ArrayList<>();
    }

    private static final class Pane {
        int store;
        int key;
        int from;
        int to;
    }

    private static final class Shot {
        int store;
        int known;
        boolean settled;
        int mark = -1;
        List<Entry> entries = new ArrayList<>();
    }

    private final Side[] sides = {new Side(), new Side()};
    private final List<int[]> listeners = new ArrayList<>();
    private final List<Pane> panes = new ArrayList<>();
    private final List<Shot> shots = new ArrayList<>();
    private final List<Word> book = new ArrayList<>();
    private final List<Wish> row = new ArrayList<>();
    private int knocks;
    private int told;

    SlowStore() {
        for (int number = 0; number < 2; number++) {
            sides[number].number = number;
            for (int key = 0; key < 40; key++) {
                sides[number].watchers.add(new ArrayList<>());
            }
        }
    }

    private static void index(boolean isSo) {
        if (!isSo) {
            throw new IndexOutOfBoundsException();
        }
    }

    private static void argument(boolean isSo) {
        if (!isSo) {
            throw new IllegalArgumentException();
        }
    }

    private static void state(boolean isSo) {
        if (!isSo) {
            throw new IllegalStateException();
        }
    }

    private static boolean in(int number, int least, int greatest) {
        return number >= least && number <= greatest;
    }

    private Side side(int store) {
        index(in(store, 0, 1));
        return sides[store];
    }

    private Side side(int store, int key) {
        index(in(store, 0, 1));
        index(in(key, 0, 39));
        return sides[store];
    }

    private static void minutes(int... all) {
        for (int minute : all) {
            argument(in(minute, 0, 999));
        }
    }

    private static void known(Side s, int known) {
        state(in(known, s.horizon, s.clock));
    }

    // sections 1 and 2, over any list of words

    private static Word latest(List<Word> words, int key, int period, int known) {
        Word latest = null;
        for (Word w : words) {
            if (w.key == key && w.period == period && w.told <= known && (latest == null
                    || w.told > latest.told || w.told == latest.told && w.store > latest.store)) {
                latest = w;
            }
        }
        return latest;
    }

    private static TreeMap<Integer, Word> lineOf(List<Word> words, int key, int known) {
        TreeMap<Integer, Word> line = new TreeMap<>();
        for (Word w : words) {
            if (w.key == key) {
                Word latest = latest(words, key, w.period, known);
                if (latest != null && latest.says != -2) {
                    line.put(w.period, latest);
                }
            }
        }
        return line;
    }

    private static int answer(TreeMap<Integer, Word> line, int minute) {
        int answer = -1;
        for (Word w : line.values()) {
            if (w.period <= minute) {
                answer = w.says;
            }
        }
        return answer;
    }

    private static int answer(List<Word> words, int key, int minute, int known) {
        return answer(lineOf(words, key, known), minute);
    }

    private static boolean may(Side s, int key, int period, int says) {
        if (s.words.size() >= 120) {
            return false;
        }
        for (Word w : s.words) {
            if (w.key == key && w.period == period && w.told == s.clock) {
                return false;
            }
        }
        Word latest = latest(s.words, key, period, s.clock);
        return says != -2 || latest != null && latest.says != -2;
    }

    // section 3

    private void utter(Side s, int key, int period, int says) {
        s.words.add(new Word(s.clock, key, period, says, s.number));
        told++;
        for (int number : s.watchers.get(key)) {
            int[] w = listeners.get(number);
            w[2]++;
            w[3] += Math.max(says, 0);
            w[4] += says == -1 ? 1 : 0;
            w[5] += says == -2 ? 1 : 0;
            if (w[0] == 1) {
                row.add(new Wish(s.number, w[1], period, says));
            }
            if (w[0] == 2) {
                row.add(new Wish(1 - s.number, key, period, says));
            }
            if (w[0] == 3 && says >= 0 && s.clock + w[1] + 1 <= 999) {
                setEnding(s, key, s.clock + w[1] + 1);
            }
        }
    }

    private void drain() {
        while (!row.isEmpty()) {
            Wish wish = row.remove(0);
            Side s = sides[wish.store];
            if (may(s, wish.key, wish.period, wish.says)) {
                utter(s, wish.key, wish.period, wish.says);
            } else {
                s.missed++;
            }
        }
    }

    private int act(Side s, int key, int period, int says) {
        state(may(s, key, period, says));
        int before = told;
        utter(s, key, period, says);
        drain();
        return told - before;
    }

    private List<Entry> span(Side s, int key, int from, int to, int value) {
        List<Entry> span = new ArrayList<>();
        span.add(new Entry(key, from, value));
        TreeMap<Integer, Word> line = lineOf(s.words, key, s.clock);
        for (int period : line.keySet()) {
            if (period > from && period < to) {
                span.add(new Entry(key, period, -2));
            }
        }
        if (!line.containsKey(to)) {
            span.add(new Entry(key, to, answer(line, to)));
        }
        for (Entry e : span) {
            if (!may(s, key, e.period, e.says)) {
                return null;
            }
        }
        return s.words.size() + span.size() > 120 ? null : span;
    }

    private static int endingOf(Side s, int key) {
        for (int[] e : s.endings) {
            if (e[0] == key) {
                return e[1];
            }
        }
        return -1;
    }

    private static void setEnding(Side s, int key, int minute) {
        if (endingOf(s, key) == minute) {
            return;
        }
        s.endings.removeIf(e -> e[0] == key);
        s.endings.add(new int[] {key, minute});
        s.endings.sort((a, b) -> a[1] - b[1]);
    }

    public int tell(int store, int key, int from, int value) {
        Side s = side(store, key);
        argument(in(from, 0, 999) && in(value, 0, 99));
        return act(s, key, from, value);
    }

    public int tellSpan(int store, int key, int from, int to, int value) {
        Side s = side(store, key);
        argument(in(from, 0, 998) && in(to, from + 1, 999) && in(value, 0, 99));
        List<Entry> span = span(s, key, from, to, value);
        state(span != null);
        int before = told;
        for (Entry e : span) {
            utter(s, key, e.period, e.says);
        }
        drain();
        return told - before;
    }

    public int end(int store, int key, int from) {
        Side s = side(store, key);
        minutes(from);
        return act(s, key, from, -1);
    }

    public int takeBack(int store, int key, int from) {
        Side s = side(store, key);
        minutes(from);
        return act(s, key, from, -2);
    }

    public int tamper(int store, int key, int from, int value) {
        Side s = side(store, key);
        argument(in(from, 0, 999) && in(value, 0, 99));
        return latest(s.words, key, from, s.clock) == null ? -1 : -9;
    }

    public int tick(int store, int minutes) {
        Side s = side(store);
        argument(in(minutes, 1, 200));
        state(s.clock + minutes <= 999);
        int goal = s.clock + minutes;
        int came = 0;
        while (!s.endings.isEmpty() && s.endings.get(0)[1] <= goal) {
            s.clock = s.endings.get(0)[1];
            List<Integer> keys = new ArrayList<>();
            while (!s.endings.isEmpty() && s.endings.get(0)[1] == s.clock) {
                keys.add(s.endings.remove(0)[0]);
            }
            for (int key : keys) {
                came++;
                if (may(s, key, s.clock, -1)) {
                    utter(s, key, s.clock, -1);
                } else {
                    s.missed++;
                }
            }
            drain();
        }
        s.clock = goal;
        return came;
    }

    public int endAt(int store, int key, int minute) {
        Side s = side(store, key);
        minutes(minute);
        state(minute > s.clock);
        int old = endingOf(s, key);
        setEnding(s, key, minute);
        return old;
    }

    public int endNever(int store, int key) {
        Side s = side(store, key);
        int old = endingOf(s, key);
        s.endings.removeIf(e -> e[0] == key);
        return old;
    }

    public int watcher(int kind, int number) {
        argument(in(kind, 0, 3) && in(number, 0, 39));
        state(listeners.size() < 12);
        listeners.add(new int[] {kind, number, 0, 0, 0, 0});
        return listeners.size() - 1;
    }

    public boolean watch(int watcher, int store, int key) {
        index(in(watcher, 0, listeners.size() - 1));
        List<Integer> there = side(store, key).watchers.get(key);
        return !there.contains(watcher) && there.add(watcher);
    }

    public boolean unwatch(int watcher, int store, int key) {
        index(in(watcher, 0, listeners.size() - 1));
        return side(store, key).watchers.get(key).remove((Integer) watcher);
    }

    // section 5

    private static TreeSet<Integer> periods(List<Word> words, int key, int from, int to) {
        TreeSet<Integer> periods = new TreeSet<>();
        for (Word w : words) {
            if (w.key == key && in(w.period, from, to)) {
                periods.add(w.period);
            }
        }
        return periods;
    }

    private TreeSet<Integer> periods(Pane p) {
        return periods(sides[p.store].words, p.key, p.from, p.to);
    }

    private Pane pane(int window) {
        index(in(window, 0, panes.size() - 1));
        return panes.get(window);
    }

    private Shot shot(int snap) {
        index(in(snap, 0, shots.size() - 1));
        return shots.get(snap);
    }

    public int window(int store, int key, int from, int to) {
        Side s = side(store, key);
        minutes(from, to);
        state(panes.size() < 6 && !periods(s.words, key, 0, 999).isEmpty());
        if (from > to) {
            return -9;
        }
        Pane p = new Pane();
        p.store = store;
        p.key = key;
        p.from = from;
        p.to = to;
        panes.add(p);
        return panes.size() - 1;
    }

    public int narrow(int window, int from, int to) {
        Pane p = pane(window);
        minutes(from, to);
        if (from > to || !in(from, p.from, p.to) || !in(to, p.from, p.to)) {
            return -9;
        }
        p.from = from;
        p.to = to;
        return periods(p).size();
    }

    public int trim(int window, int from) {
        Pane p = pane(window);
        minutes(from);
        if (!in(from, p.from, p.to)) {
            return -9;
        }
        p.from = from;
        return periods(p).size();
    }

    public int shut(int window) {
        panes.remove(pane(window));
        return panes.size();
    }

    public int snap(int store, int known) {
        Side s = side(store);
        minutes(known);
        known(s, known);
        state(shots.size() < 6);
        Shot shot = new Shot();
        shot.store = store;
        shot.known = known;
        shot.settled = known < s.clock;
        for (int key = 0; key < 40; key++) {
            for (Word w : lineOf(s.words, key, known).values()) {
                shot.entries.add(new Entry(key, w.period, w.says));
            }
        }
        shots.add(shot);
        return shots.size() - 1;
    }

    public int snapNext(int snap) {
        Shot shot = shot(snap);
        if (shot.mark == shot.entries.size() - 1) {
            return -9;
        }
        shot.mark++;
        return shot.entries.get(shot.mark).key;
    }

    public int rewind(int snap) {
        Shot shot = shot(snap);
        int passed = shot.mark + 1;
        shot.mark = -1;
        return passed;
    }

    public int drop(int snap) {
        shots.remove(shot(snap));
        return shots.size();
    }

    // sections 6 and 7

    private static List<Word> outdated(Side s, int known) {
        List<Word> gone = new ArrayList<>();
        for (Word w : s.words) {
            for (Word later : s.words) {
                if (later.key == w.key && later.period == w.period && later.told > w.told
                        && later.told <= known && !gone.contains(w)) {
                    gone.add(w);
                }
            }
        }
        return gone;
    }

    public int forget(int store, int known) {
        Side s = side(store);
        minutes(known);
        known(s, known);
        List<Word> gone = outdated(s, known);
        s.words.removeAll(gone);
        s.horizon = known;
        s.left += gone.size();
        return gone.size();
    }

    private static int join(List<Word> into, List<Word> words) {
        int came = 0;
        for (Word w : words) {
            boolean isThere = false;
            for (Word b : into) {
                isThere |= b.key == w.key && b.period == w.period && b.told == w.told && b.store == w.store;
            }
            if (!isThere) {
                into.add(w);
                came++;
            }
        }
        return came;
    }

    public int gather(int store) {
        return join(book, side(store).words);
    }

    public int emptyBook() {
        int count = book.size();
        book.clear();
        return count;
    }

    public int knock() {
        return ++knocks;
    }

    // what is read

    public int read(int store, int key, int minute, int known) {
        Side s = side(store, key);
        minutes(minute, known);
        known(s, known);
        return answer(s.words, key, minute, known);
    }

    public int readNow(int store, int key) {
        Side s = side(store, key);
        return answer(s.words, key, s.clock, s.clock);
    }

    public int spotOf(int store, int key, int minute, int known, int what) {
        Side s = side(store, key);
        minutes(minute, known);
        argument(in(what, 0, 2));
        known(s, known);
        TreeMap<Integer, Word> line = lineOf(s.words, key, known);
        if (what == 2) {
            Integer next = line.higherKey(minute);
            return next == null ? 1000 : next;
        }
        Integer spot = line.floorKey(minute);
        return spot == null ? -1 : what == 0 ? spot : line.get(spot).told;
    }

    public int bound(int store, int key, int known, boolean isLast) {
        Side s = side(store, key);
        minutes(known);
        known(s, known);
        TreeMap<Integer, Word> line = lineOf(s.words, key, known);
        return line.isEmpty() ? -9 : isLast ? line.lastKey() : line.firstKey();
    }

    public String line(int store, int key, int known) {
        Side s = side(store, key);
        minutes(known);
        known(s, known);
        List<String> parts = new ArrayList<>();
        for (Word w : lineOf(s.words, key, known).values()) {
            parts.add(w.period + ":" + (w.says == -1 ? "x" : w.says));
        }
        return String.join(" ", parts);
    }

    public int lasts(int store, int key, int known, int value) {
        Side s = side(store, key);
        argument(in(known, 0, 999) && in(value, -1, 99));
        known(s, known);
        TreeMap<Integer, Word> line = lineOf(s.words, key, known);
        int count = 0;
        for (int minute = 0; minute < 1000; minute++) {
            count += answer(line, minute) == value ? 1 : 0;
        }
        return count;
    }

    public int differ(int store, int key, int known, int other) {
        Side s = side(store, key);
        minutes(known, other);
        known(s, known);
        known(s, other);
        TreeMap<Integer, Word> line = lineOf(s.words, key, known);
        TreeMap<Integer, Word> otherLine = lineOf(s.words, key, other);
        int count = 0;
        for (int minute = 0; minute < 1000; minute++) {
            count += answer(line, minute) != answer(otherLine, minute) ? 1 : 0;
        }
        return count;
    }

    public int changes(int store, int key, int minute) {
        Side s = side(store, key);
        minutes(minute);
        int count = 0;
        int last = answer(s.words, key, minute, s.horizon);
        for (int u = s.horizon + 1; u <= s.clock; u++) {
            int now = answer(s.words, key, minute, u);
            count += now != last ? 1 : 0;
            last = now;
        }
        return count;
    }

    public int firstKnown(int store, int key, int minute, int value) {
        Side s = side(store, key);
        argument(in(minute, 0, 999) && in(value, -1, 99));
        for (int u = s.horizon; u <= s.clock; u++) {
            if (answer(s.words, key, minute, u) == value) {
                return u;
            }
        }
        return -1;
    }

    private static List<Word> about(Side s, int key, int period) {
        List<Word> about = new ArrayList<>();
        for (Word w : s.words) {
            if (w.key == key && w.period == period) {
                about.add(w);
            }
        }
        about.sort((a, b) -> a.told - b.told);
        return about;
    }

    public int words(int store, int key, int from) {
        Side s = side(store, key);
        minutes(from);
        return about(s, key, from).size();
    }

    public int word(int store, int key, int from, int place, int what) {
        List<Word> about = about(side(store, key), key, from);
        index(in(place, 0, about.size() - 1));
        argument(in(what, 0, 1));
        return what == 0 ? about.get(place).told : about.get(place).says;
    }

    // endings and who listens

    public int nextEnding(int store) {
        Side s = side(store);
        return s.endings.isEmpty() ? -9 : s.endings.get(0)[1];
    }

    public int endingsAt(int store, int minute) {
        Side s = side(store);
        argument(in(minute, -1, 999));
        int count = 0;
        for (int[] e : s.endings) {
            count += e[1] == minute ? 1 : 0;
        }
        return minute == -1 ? -9 : count;
    }

    public int ending(int store, int place) {
        Side s = side(store);
        index(in(place, 0, s.endings.size() - 1));
        return s.endings.get(place)[0];
    }

    public int endingOf(int store, int key) {
        return endingOf(side(store, key), key);
    }

    public int watching(int store, int key) {
        return side(store, key).watchers.get(key).size();
    }

    public int watcherAt(int store, int key, int place) {
        List<Integer> there = side(store, key).watchers.get(key);
        index(in(place, 0, there.size() - 1));
        return there.get(place);
    }

    public int heard(int watcher, int what) {
        index(in(watcher, 0, listeners.size() - 1));
        argument(in(what, 0, 5));
        return listeners.get(watcher)[what];
    }

    // windows, snapshots, the journal

    public int ofWindow(int window, int what) {
        Pane p = pane(window);
        argument(in(what, 0, 6));
        TreeSet<Integer> periods = periods(p);
        int least = periods.isEmpty() ? -9 : periods.first();
        int greatest = periods.isEmpty() ? -9 : periods.last();
        return new int[] {p.store, p.key, p.from, p.to, periods.size(), least, greatest}[what];
    }

    public int windowRead(int window, int minute, int known) {
        Pane p = pane(window);
        minutes(minute, known);
        Side s = sides[p.store];
        known(s, known);
        List<Word> only = new ArrayList<>(s.words);
        only.removeIf(w -> !periods(p).contains(w.period));
        return answer(only, p.key, minute, known);
    }

    public int snapRead(int snap, int key, int minute) {
        Shot shot = shot(snap);
        index(in(key, 0, 39));
        minutes(minute);
        int answer = -1;
        for (Entry e : shot.entries) {
            answer = e.key == key && e.period <= minute ? e.says : answer;
        }
        return answer;
    }

    public int ofSnap(int snap, int what) {
        Shot shot = shot(snap);
        argument(in(what, 0, 7));
        TreeSet<Integer> keys = new TreeSet<>();
        for (Entry e : shot.entries) {
            keys.add(e.key);
        }
        Entry at = shot.mark < 0 ? new Entry(-1, -1, -1) : shot.entries.get(shot.mark);
        return new int[] {shot.store, shot.known, shot.settled ? 1 : 0, keys.size(), shot.entries.size(),
            at.key, at.period, at.says}[what];
    }

    public int snapDiffer(int snap, int other) {
        List<Entry> a = shot(snap).entries;
        List<Entry> b = shot(other).entries;
        TreeSet<Integer> pairs = new TreeSet<>();
        for (Entry e : a) {
            if (!b.contains(e)) {
                pairs.add(e.key * 1000 + e.period);
            }
        }
        for (Entry e : b) {
            if (!a.contains(e)) {
                pairs.add(e.key * 1000 + e.period);
            }
        }
        return pairs.size();
    }

    public int journal(int store, int known) {
        Side s = side(store);
        minutes(known);
        int count = 0;
        for (Word w : s.words) {
            count += w.told <= known ? 1 : 0;
        }
        return count;
    }

    public int entry(int store, int place, int what) {
        Side s = side(store);
        index(in(place, 0, s.words.size() - 1));
        argument(in(what, 0, 3));
        Word w = s.words.get(place);
        return new int[] {w.told, w.key, w.period, w.says}[what];
    }

    public int rebuiltRead(int store, int key, int minute, int known) {
        Side s = side(store, key);
        minutes(minute, known);
        known(s, known);
        List<Word> rebuilt = new ArrayList<>(s.words);
        rebuilt.removeIf(w -> w.told > known);
        return answer(rebuilt, key, minute, known);
    }

    // the book, and joining

    public int bookRead(int key, int minute, int known) {
        index(in(key, 0, 39));
        minutes(minute, known);
        return answer(book, key, minute, known);
    }

    public int bookBy(int key, int minute, int known) {
        index(in(key, 0, 39));
        minutes(minute, known);
        var spot = lineOf(book, key, known).floorEntry(minute);
        return spot == null ? -1 : spot.getValue().store;
    }

    public int ofBook(int what) {
        argument(in(what, 0, 3));
        TreeSet<Integer> keys = new TreeSet<>();
        int ones = 0;
        for (Word w : book) {
            keys.add(w.key);
            ones += w.store;
        }
        return new int[] {book.size(), keys.size(), book.size() - ones, ones}[what];
    }

    public int joinedRead(int key, int minute, int known, boolean isOtherFirst) {
        index(in(key, 0, 39));
        minutes(minute, known);
        List<Word> joined = new ArrayList<>();
        join(joined, sides[isOtherFirst ? 1 : 0].words);
        join(joined, sides[isOtherFirst ? 0 : 1].words);
        return answer(joined, key, minute, known);
    }

    public int joinedWords(int what) {
        argument(in(what, 0, 2));
        List<Word> joined = new ArrayList<>(sides[0].words);
        join(joined, sides[1].words);
        if (what > 0) {
            join(joined, book);
        }
        return joined.size();
    }

    // all

    public int ofStore(int store, int what) {
        Side s = side(store);
        argument(in(what, 0, 6));
        TreeSet<Integer> keys = new TreeSet<>();
        for (Word w : s.words) {
            keys.add(w.key);
        }
        return new int[] {s.clock, s.horizon, keys.size(), s.words.size(), s.endings.size(), s.missed,
            s.left}[what];
    }

    public int house(int what) {
        argument(in(what, 0, 4));
        return new int[] {listeners.size(), panes.size(), shots.size(), knocks, told}[what];
    }

    public int wouldSpan(int store, int key, int from, int to) {
        Side s = side(store, key);
        argument(in(from, 0, 998) && in(to, from + 1, 999));
        List<Entry> span = span(s, key, from, to, 0);
        return span == null ? -9 : span.size();
    }

    public int wouldForget(int store, int known) {
        Side s = side(store);
        minutes(known);
        known(s, known);
        return outdated(s, known).size();
    }

    /** All that is asked follows from the document's other words, so it is always so. */
    public boolean isSound() {
        return true;
    }

    public long digest() {
        List<Integer> v = new ArrayList<>();
        for (int what = 0; what <= 4; what++) {
            v.add(house(what));
        }
        for (Side s : sides) {
            for (int what = 0; what <= 6; what++) {
                v.add(ofStore(s.number, what));
            }
            for (int place = 0; place < s.words.size() * 4; place++) {
                v.add(entry(s.number, place / 4, place % 4));
            }
            for (int[] e : s.endings) {
                v.add(e[0]);
            }
            for (int key = 0; key < 40; key++) {
                v.add(endingOf(s.number, key));
                v.add(watching(s.number, key));
                if (!periods(s.words, key, 0, 999).isEmpty()) {
                    v.add(readNow(s.number, key));
                    v.add(read(s.number, key, 999, s.horizon));
                    v.add(lasts(s.number, key, s.clock, -1));
                    v.add(differ(s.number, key, s.horizon, s.clock));
                    v.add(changes(s.number, key, s.clock));
                    v.add(line(s.number, key, s.clock).length());
                }
            }
        }
        for (int[] w : listeners) {
            for (int number : w) {
                v.add(number);
            }
        }
        for (int window = 0; window < panes.size(); window++) {
            for (int what = 0; what <= 6; what++) {
                v.add(ofWindow(window, what));
            }
            v.add(windowRead(window, 999, sides[panes.get(window).store].clock));
        }
        for (int snap = 0; snap < shots.size(); snap++) {
            for (int what = 0; what <= 7; what++) {
                v.add(ofSnap(snap, what));
            }
            for (int key = 0; key < 40; key++) {
                v.add(snapRead(snap, key, 999));
            }
        }
        for (int what = 0; what <= 3; what++) {
            v.add(ofBook(what));
        }
        for (int what = 0; what <= 2; what++) {
            v.add(joinedWords(what));
        }
        for (int key = 0; key < 40; key++) {
            v.add(bookRead(key, 999, 999));
        }
        v.add(isSound() ? 1 : 0);
        long d = 4814;
        for (int number : v) {
            d = d * 31 + number;
        }
        return d;
    }
}
