import java.util.Arrays;

/**
 * Two stores that keep what holds from which minute on, and when that was told.
 * The words in capitals in the document (WORD, PERIOD, LINE, SPOT ..) bear the same names here.
 */
public final class TimeStore {
    private static final int NONE = -1;
    private static final int REFUSED = -9;
    private static final int ENDED = -1;
    private static final int BACK = -2;
    private static final int STORES = 2;
    private static final int KEYS = 40;
    private static final int MINUTES = 1000;
    private static final int VALUES = 100;
    private static final int NUMBERS = 40;
    private static final int KINDS = 4;
    private static final int LONGEST_TICK = 200;
    private static final int MOST_WORDS = 120;
    private static final int MOST_WATCHERS = 12;
    private static final int MOST_WINDOWS = 6;
    private static final int MOST_SNAPSHOTS = 6;
    // Each of 512 calls gathers one store at most; both stores may be joined with that.
    private static final int MOST_KEPT = 512 * MOST_WORDS + STORES * MOST_WORDS;
    // Both ends, and between them a period for each word at most.
    private static final int MOST_SPAN = MOST_WORDS + 2;
    // An act's own words, and those wanted: no word leaves meanwhile, and each is heard by 12 at most.
    private static final int MOST_DUE = MOST_SPAN + STORES * MOST_WORDS * MOST_WATCHERS;

    private final Store zero;
    private final Store one;
    private final Words book;
    // Rows for what would be, made once and used again by each call that asks.
    private final Words draft;
    private final Words otherDraft;
    private final int[] tally;
    private final long[] span;
    // The row of what is to be told: an act's own words, and behind them what is wanted by these.
    private final long[] due;
    private int dueCount;
    private final Watcher[] watchers;
    private int watcherCount;
    private final Window[] windows;
    private int windowCount;
    private final Snapshot[] snapshots;
    private int snapshotCount;
    private int knocks;
    private int toldEver;

    public TimeStore() {
        zero = new Store(0);
        one = new Store(1);
        book = new Words(STORES * MOST_WORDS);
        draft = new Words(STORES * MOST_WORDS);
        otherDraft = new Words(STORES * MOST_WORDS);
        tally = new int[VALUES + 1];
        span = new long[MOST_SPAN];
        due = new long[MOST_DUE];
        watchers = new Watcher[MOST_WATCHERS];
        for (int number = 0; number < MOST_WATCHERS; number++) {
            watchers[number] = new Watcher();
        }
        windows = new Window[MOST_WINDOWS];
        for (int number = 0; number < MOST_WINDOWS; number++) {
            windows[number] = new Window();
        }
        snapshots = new Snapshot[MOST_SNAPSHOTS];
        for (int number = 0; number < MOST_SNAPSHOTS; number++) {
            snapshots[number] = new Snapshot();
        }
    }

    // ---- telling

    public int tell(int store, int key, int from, int value)
            throws IndexOutOfBoundsException, IllegalArgumentException, IllegalStateException {
        needKey(store, key);
        needMinute(from);
        needValue(value);
        return tellAct(store, key, from, value);
    }

    public int tellSpan(int store, int key, int from, int to, int value)
            throws IndexOutOfBoundsException, IllegalArgumentException, IllegalStateException {
        needKey(store, key);
        needSpan(from, to);
        needValue(value);
        int count = planSpan(storeAt(store), key, from, to, value);
        if (count == REFUSED) {
            throw new IllegalStateException("the span may not be told");
        }
        for (int place = 0; place < count && place < MOST_SPAN; place++) {
            addDue(store, key, Words.periodOf(span[place]), Words.saysOf(span[place]));
        }
        return workOff();
    }

    public int end(int store, int key, int from)
            throws IndexOutOfBoundsException, IllegalArgumentException, IllegalStateException {
        needKey(store, key);
        needMinute(from);
        return tellAct(store, key, from, ENDED);
    }

    public int takeBack(int store, int key, int from)
            throws IndexOutOfBoundsException, IllegalArgumentException, IllegalStateException {
        needKey(store, key);
        needMinute(from);
        return tellAct(store, key, from, BACK);
    }

    public int tamper(int store, int key, int from, int value)
            throws IndexOutOfBoundsException, IllegalArgumentException {
        needKey(store, key);
        needMinute(from);
        needValue(value);
        return storeAt(store).words.latestPlace(key, from) == NONE ? NONE : REFUSED;
    }

    private int tellAct(int store, int key, int period, int says) {
        if (!storeAt(store).mayTell(key, period, says)) {
            throw new IllegalStateException("the store may not tell this word");
        }
        addDue(store, key, period, says);
        return workOff();
    }

    private void addDue(int store, int key, int period, int says) {
        if (dueCount < MOST_DUE) {
            due[dueCount] = Words.pack(key, period, 0, store, says);
            dueCount++;
        }
    }

    /** Works the row off from its front, also what comes to its end meanwhile; how many words were told. */
    private int workOff() {
        int before = toldEver;
        for (int place = 0; place < dueCount && place < MOST_DUE; place++) {
            long word = due[place];
            Store store = storeAt(Words.storeOf(word));
            int key = Words.keyOf(word);
            int period = Words.periodOf(word);
            int says = Words.saysOf(word);
            if (store.mayTell(key, period, says)) {
                sayWord(store, key, period, says);
            } else {
                store.missed++;
            }
        }
        dueCount = 0;
        return toldEver - before;
    }

    private void sayWord(Store store, int key, int period, int says) {
        store.lay(key, period, says);
        toldEver++;
        int count = store.listenerCounts[key];
        for (int place = 0; place < count && place < MOST_WATCHERS; place++) {
            int number = store.listeners[key * MOST_WATCHERS + place];
            hearWord(watchers[number], store, key, period, says);
        }
    }

    private void hearWord(Watcher watcher, Store store, int key, int period, int says) {
        watcher.countWord(says);
        if (watcher.kind == 1) {
            addDue(store.number, watcher.number, period, says);
        } else if (watcher.kind == 2) {
            addDue(1 - store.number, key, period, says);
        } else if (watcher.kind == 3 && says >= 0) {
            int minute = store.clock + watcher.number + 1;
            if (minute < MINUTES) {
                store.endings.put(key, minute);
            }
        }
    }

    /** Writes the words of a span into its row; how many there are, or REFUSED. */
    private int planSpan(Store store, int key, int from, int to, int value) {
        Words words = store.words;
        int count = 1;
        span[0] = Words.pack(key, from, 0, 0, value);
        int end = words.firstAbout(key, to);
        for (int place = words.firstAbout(key, from + 1); place < end; place++) {
            if (words.stands(place, store.clock) && count < MOST_SPAN - 1) {
                span[count] = Words.pack(key, words.periodAt(place), 0, 0, BACK);
                count++;
            }
        }
        int spot = words.spotPlace(key, to, store.clock);
        if (spot == NONE || words.periodAt(spot) != to) {
            span[count] = Words.pack(key, to, 0, 0, spot == NONE ? ENDED : words.saysAt(spot));
            count++;
        }
        return maySpan(store, key, count) ? count : REFUSED;
    }

    private boolean maySpan(Store store, int key, int count) {
        if (store.words.size + count > MOST_WORDS) {
            return false;
        }
        for (int place = 0; place < count && place < MOST_SPAN; place++) {
            if (!store.mayTell(key, Words.periodOf(span[place]), Words.saysOf(span[place]))) {
                return false;
            }
        }
        return true;
    }

    // ---- clocks and endings

    public int tick(int store, int minutes)
            throws IndexOutOfBoundsException, IllegalArgumentException, IllegalStateException {
        needStore(store);
        if (minutes < 1 || minutes > LONGEST_TICK) {
            throw new IllegalArgumentException("minutes are 1 to 200");
        }
        Store here = storeAt(store);
        int goal = here.clock + minutes;
        if (goal >= MINUTES) {
            throw new IllegalStateException("the clock would be above 999");
        }
        int came = 0;
        for (int minute = here.clock + 1; minute <= goal; minute++) {
            here.clock = minute;
            came += takeEndings(here);
            workOff();
        }
        return came;
    }

    /** Takes away the endings of the clock's minute, and makes their words due; how many there were. */
    private int takeEndings(Store store) {
        Endings endings = store.endings;
        int count = endings.countAt(store.clock);
        for (int came = 0; came < count; came++) {
            addDue(store.number, endings.keys[0], store.clock, ENDED);
            endings.removeAt(0);
        }
        return count;
    }

    public int endAt(int store, int key, int minute)
            throws IndexOutOfBoundsException, IllegalArgumentException, IllegalStateException {
        needKey(store, key);
        needMinute(minute);
        Store here = storeAt(store);
        if (minute <= here.clock) {
            throw new IllegalStateException("an ending is behind the clock");
        }
        int old = here.endings.minuteOf(key);
        here.endings.put(key, minute);
        return old;
    }

    public int endNever(int store, int key) throws IndexOutOfBoundsException {
        needKey(store, key);
        Endings endings = storeAt(store).endings;
        int old = endings.minuteOf(key);
        endings.removeAt(endings.placeOf(key));
        return old;
    }

    // ---- who listens

    public int watcher(int kind, int number) throws IllegalArgumentException, IllegalStateException {
        if (kind < 0 || kind >= KINDS || number < 0 || number >= NUMBERS) {
            throw new IllegalArgumentException("a kind is 0 to 3, a number 0 to 39");
        }
        if (watcherCount >= MOST_WATCHERS) {
            throw new IllegalStateException("there are 12 watchers");
        }
        watchers[watcherCount].begin(kind, number);
        watcherCount++;
        return watcherCount - 1;
    }

    public boolean watch(int watcher, int store, int key) throws IndexOutOfBoundsException {
        needWatcher(watcher);
        needKey(store, key);
        return storeAt(store).addListener(key, watcher);
    }

    public boolean unwatch(int watcher, int store, int key) throws IndexOutOfBoundsException {
        needWatcher(watcher);
        needKey(store, key);
        return storeAt(store).removeListener(key, watcher);
    }

    // ---- windows and snapshots

    public int window(int store, int key, int from, int to)
            throws IndexOutOfBoundsException, IllegalArgumentException, IllegalStateException {
        needKey(store, key);
        needMinute(from);
        needMinute(to);
        if (windowCount >= MOST_WINDOWS) {
            throw new IllegalStateException("there are 6 windows");
        }
        if (!storeAt(store).words.hasKey(key)) {
            throw new IllegalStateException("no word about the key lies in the store");
        }
        if (from > to) {
            return REFUSED;
        }
        windows[windowCount].open(store, key, from, to);
        windowCount++;
        return windowCount - 1;
    }

    public int narrow(int window, int from, int to)
            throws IndexOutOfBoundsException, IllegalArgumentException {
        needWindow(window);
        needMinute(from);
        needMinute(to);
        Window pane = windows[window];
        if (from > to || !pane.hasMinute(from) || !pane.hasMinute(to)) {
            return REFUSED;
        }
        pane.from = from;
        pane.to = to;
        return periodsOf(pane);
    }

    public int trim(int window, int from)
            throws IndexOutOfBoundsException, IllegalArgumentException {
        needWindow(window);
        needMinute(from);
        Window pane = windows[window];
        if (!pane.hasMinute(from)) {
            return REFUSED;
        }
        pane.from = from;
        return periodsOf(pane);
    }

    public int shut(int window) throws IndexOutOfBoundsException {
        needWindow(window);
        Window pane = windows[window];
        windowCount--;
        for (int place = window; place < windowCount; place++) {
            windows[place] = windows[place + 1];
        }
        windows[windowCount] = pane;
        return windowCount;
    }

    private int periodsOf(Window pane) {
        return storeAt(pane.store).words.periodCount(pane.key, pane.from, pane.to);
    }

    public int snap(int store, int known)
            throws IndexOutOfBoundsException, IllegalArgumentException, IllegalStateException {
        needStore(store);
        needMinute(known);
        Store here = storeAt(store);
        needKnown(here, known);
        if (snapshotCount >= MOST_SNAPSHOTS) {
            throw new IllegalStateException("there are 6 snapshots");
        }
        snapshots[snapshotCount].take(here, known);
        snapshotCount++;
        return snapshotCount - 1;
    }

    public int snapNext(int snap) throws IndexOutOfBoundsException {
        needSnapshot(snap);
        Snapshot picture = snapshots[snap];
        if (picture.mark + 1 >= picture.lines.size) {
            return REFUSED;
        }
        picture.mark++;
        return picture.lines.keyAt(picture.mark);
    }

    public int rewind(int snap) throws IndexOutOfBoundsException {
        needSnapshot(snap);
        int passed = snapshots[snap].mark + 1;
        snapshots[snap].mark = NONE;
        return passed;
    }

    public int drop(int snap) throws IndexOutOfBoundsException {
        needSnapshot(snap);
        Snapshot picture = snapshots[snap];
        snapshotCount--;
        for (int place = snap; place < snapshotCount; place++) {
            snapshots[place] = snapshots[place + 1];
        }
        snapshots[snapshotCount] = picture;
        return snapshotCount;
    }

    // ---- forgetting and the book

    public int forget(int store, int known)
            throws IndexOutOfBoundsException, IllegalArgumentException, IllegalStateException {
        needStore(store);
        needMinute(known);
        Store here = storeAt(store);
        needKnown(here, known);
        return here.forgetUpTo(known);
    }

    public int gather(int store) throws IndexOutOfBoundsException {
        needStore(store);
        return book.takeAll(storeAt(store).words);
    }

    public int emptyBook() {
        int count = book.size;
        book.size = 0;
        return count;
    }

    public int knock() {
        knocks++;
        return knocks;
    }

    // ---- what is read

    public int read(int store, int key, int minute, int known)
            throws IndexOutOfBoundsException, IllegalArgumentException, IllegalStateException {
        needKey(store, key);
        needMinute(minute);
        needMinute(known);
        Store here = storeAt(store);
        needKnown(here, known);
        return here.words.answer(key, minute, known);
    }

    public int readNow(int store, int key) throws IndexOutOfBoundsException {
        needKey(store, key);
        Store here = storeAt(store);
        return here.words.answer(key, here.clock, here.clock);
    }

    public int spotOf(int store, int key, int minute, int known, int what)
            throws IndexOutOfBoundsException, IllegalArgumentException, IllegalStateException {
        needKey(store, key);
        needMinute(minute);
        needMinute(known);
        needWhat(what, 2);
        Store here = storeAt(store);
        needKnown(here, known);
        Words words = here.words;
        if (what == 2) {
            int next = words.firstStanding(key, minute + 1, known);
            return next == NONE ? MINUTES : words.periodAt(next);
        }
        int spot = words.spotPlace(key, minute, known);
        if (spot == NONE) {
            return NONE;
        }
        return what == 0 ? words.periodAt(spot) : words.toldAt(spot);
    }

    public int bound(int store, int key, int known, boolean isLast)
            throws IndexOutOfBoundsException, IllegalArgumentException, IllegalStateException {
        needKey(store, key);
        needMinute(known);
        Store here = storeAt(store);
        needKnown(here, known);
        Words words = here.words;
        int place = isLast ? words.spotPlace(key, MINUTES - 1, known)
                : words.firstStanding(key, 0, known);
        return place == NONE ? REFUSED : words.periodAt(place);
    }

    public String line(int store, int key, int known)
            throws IndexOutOfBoundsException, IllegalArgumentException, IllegalStateException {
        needKey(store, key);
        needMinute(known);
        Store here = storeAt(store);
        needKnown(here, known);
        Words words = here.words;
        StringBuilder text = new StringBuilder();
        int end = words.endOf(key);
        for (int place = words.firstAbout(key, 0); place < end; place++) {
            if (words.stands(place, known)) {
                if (text.length() > 0) {
                    text.append(' ');
                }
                text.append(words.periodAt(place)).append(':');
                appendSaid(text, words.saysAt(place));
            }
        }
        return text.toString();
    }

    private static void appendSaid(StringBuilder text, int says) {
        if (says == ENDED) {
            text.append('x');
        } else {
            text.append(says);
        }
    }

    public int lasts(int store, int key, int known, int value)
            throws IndexOutOfBoundsException, IllegalArgumentException, IllegalStateException {
        needKey(store, key);
        needMinute(known);
        needAnswer(value);
        Store here = storeAt(store);
        needKnown(here, known);
        tallyMinutes(here.words, key, known);
        return tally[value + 1];
    }

    /** Counts into the tally at how many minutes each answer holds, NONE first. */
    private void tallyMinutes(Words words, int key, int known) {
        Arrays.fill(tally, 0);
        int from = 0;
        int answer = NONE;
        int end = words.endOf(key);
        for (int place = words.firstAbout(key, 0); place < end; place++) {
            if (words.stands(place, known)) {
                tally[answer + 1] += words.periodAt(place) - from;
                from = words.periodAt(place);
                answer = words.saysAt(place);
            }
        }
        tally[answer + 1] += MINUTES - from;
    }

    public int differ(int store, int key, int known, int other)
            throws IndexOutOfBoundsException, IllegalArgumentException, IllegalStateException {
        needKey(store, key);
        needMinute(known);
        needMinute(other);
        Store here = storeAt(store);
        needKnown(here, known);
        needKnown(here, other);
        return here.words.unlikeMinutes(key, known, other);
    }

    public int changes(int store, int key, int minute)
            throws IndexOutOfBoundsException, IllegalArgumentException {
        needKey(store, key);
        needMinute(minute);
        Store here = storeAt(store);
        int count = 0;
        int known = here.nextTold(key, here.horizon);
        for (int round = 0; known != NONE && round < MOST_WORDS; round++) {
            if (here.words.answer(key, minute, known) != here.words.answer(key, minute, known - 1)) {
                count++;
            }
            known = here.nextTold(key, known);
        }
        return count;
    }

    public int firstKnown(int store, int key, int minute, int value)
            throws IndexOutOfBoundsException, IllegalArgumentException {
        needKey(store, key);
        needMinute(minute);
        needAnswer(value);
        Store here = storeAt(store);
        int known = here.horizon;
        // An answer becomes another one only at minutes at which words about the key were told.
        for (int round = 0; known != NONE && round <= MOST_WORDS; round++) {
            if (here.words.answer(key, minute, known) == value) {
                return known;
            }
            known = here.nextTold(key, known);
        }
        return NONE;
    }

    public int words(int store, int key, int from)
            throws IndexOutOfBoundsException, IllegalArgumentException {
        needKey(store, key);
        needMinute(from);
        return storeAt(store).words.countAbout(key, from);
    }

    public int word(int store, int key, int from, int place, int what)
            throws IndexOutOfBoundsException, IllegalArgumentException {
        needKey(store, key);
        Words words = storeAt(store).words;
        if (from < 0 || from >= MINUTES || place < 0 || place >= words.countAbout(key, from)) {
            throw new IndexOutOfBoundsException("there is no such word");
        }
        needWhat(what, 1);
        int at = words.firstAbout(key, from) + place;
        return what == 0 ? words.toldAt(at) : words.saysAt(at);
    }

    // ---- endings and who listens

    public int nextEnding(int store) throws IndexOutOfBoundsException {
        needStore(store);
        Endings endings = storeAt(store).endings;
        return endings.size == 0 ? REFUSED : endings.minutes[0];
    }

    public int endingsAt(int store, int minute)
            throws IndexOutOfBoundsException, IllegalArgumentException {
        needStore(store);
        if (minute == NONE) {
            return REFUSED;
        }
        needMinute(minute);
        return storeAt(store).endings.countAt(minute);
    }

    public int ending(int store, int place) throws IndexOutOfBoundsException {
        needStore(store);
        Endings endings = storeAt(store).endings;
        if (place < 0 || place >= endings.size) {
            throw new IndexOutOfBoundsException("there is no such place");
        }
        return endings.keys[place];
    }

    public int endingOf(int store, int key) throws IndexOutOfBoundsException {
        needKey(store, key);
        return storeAt(store).endings.minuteOf(key);
    }

    public int watching(int store, int key) throws IndexOutOfBoundsException {
        needKey(store, key);
        return storeAt(store).listenerCounts[key];
    }

    public int watcherAt(int store, int key, int place) throws IndexOutOfBoundsException {
        needKey(store, key);
        Store here = storeAt(store);
        if (place < 0 || place >= here.listenerCounts[key]) {
            throw new IndexOutOfBoundsException("there is no such place");
        }
        return here.listeners[key * MOST_WATCHERS + place];
    }

    public int heard(int watcher, int what)
            throws IndexOutOfBoundsException, IllegalArgumentException {
        needWatcher(watcher);
        needWhat(what, 5);
        Watcher listener = watchers[watcher];
        switch (what) {
            case 0:
                return listener.kind;
            case 1:
                return listener.number;
            case 2:
                return listener.heardWords;
            case 3:
                return listener.valueSum;
            case 4:
                return listener.heardEnded;
            default:
                return listener.heardBack;
        }
    }

    // ---- windows, snapshots, the journal

    public int ofWindow(int window, int what)
            throws IndexOutOfBoundsException, IllegalArgumentException {
        needWindow(window);
        needWhat(what, 6);
        Window pane = windows[window];
        switch (what) {
            case 0:
                return pane.store;
            case 1:
                return pane.key;
            case 2:
                return pane.from;
            case 3:
                return pane.to;
            case 4:
                return periodsOf(pane);
            default:
                return endPeriodOf(pane, what == 6);
        }
    }

    private int endPeriodOf(Window pane, boolean isGreatest) {
        Words words = storeAt(pane.store).words;
        int first = words.firstAbout(pane.key, pane.from);
        int end = words.firstAbout(pane.key, pane.to + 1);
        if (first >= end) {
            return REFUSED;
        }
        return words.periodAt(isGreatest ? end - 1 : first);
    }

    public int windowRead(int window, int minute, int known)
            throws IndexOutOfBoundsException, IllegalArgumentException, IllegalStateException {
        needWindow(window);
        needMinute(minute);
        needMinute(known);
        Window pane = windows[window];
        Store here = storeAt(pane.store);
        needKnown(here, known);
        int spot = here.words.spotPlace(pane.key, Math.min(minute, pane.to), known);
        if (spot == NONE || here.words.periodAt(spot) < pane.from) {
            return NONE;
        }
        return here.words.saysAt(spot);
    }

    public int snapRead(int snap, int key, int minute)
            throws IndexOutOfBoundsException, IllegalArgumentException {
        needSnapshot(snap);
        needBareKey(key);
        needMinute(minute);
        return snapshots[snap].lines.answer(key, minute, 0);
    }

    public int ofSnap(int snap, int what)
            throws IndexOutOfBoundsException, IllegalArgumentException {
        needSnapshot(snap);
        needWhat(what, 7);
        Snapshot picture = snapshots[snap];
        switch (what) {
            case 0:
                return picture.store;
            case 1:
                return picture.known;
            case 2:
                return picture.isSettled ? 1 : 0;
            case 3:
                return picture.lines.keyCount();
            case 4:
                return picture.lines.size;
            default:
                return picture.ofMark(what);
        }
    }

    public int snapDiffer(int snap, int other) throws IndexOutOfBoundsException {
        needSnapshot(snap);
        needSnapshot(other);
        return snapshots[snap].lines.unlikeEntries(snapshots[other].lines);
    }

    public int journal(int store, int known)
            throws IndexOutOfBoundsException, IllegalArgumentException {
        needStore(store);
        needMinute(known);
        Store here = storeAt(store);
        int count = 0;
        for (int place = 0; place < here.journalSize; place++) {
            if (Words.toldOf(here.journal[place]) <= known) {
                count++;
            }
        }
        return count;
    }

    public int entry(int store, int place, int what)
            throws IndexOutOfBoundsException, IllegalArgumentException {
        needStore(store);
        Store here = storeAt(store);
        if (place < 0 || place >= here.journalSize) {
            throw new IndexOutOfBoundsException("there is no such place");
        }
        needWhat(what, 3);
        long word = here.journal[place];
        switch (what) {
            case 0:
                return Words.toldOf(word);
            case 1:
                return Words.keyOf(word);
            case 2:
                return Words.periodOf(word);
            default:
                return Words.saysOf(word);
        }
    }

    public int rebuiltRead(int store, int key, int minute, int known)
            throws IndexOutOfBoundsException, IllegalArgumentException, IllegalStateException {
        needKey(store, key);
        needMinute(minute);
        needMinute(known);
        Store here = storeAt(store);
        needKnown(here, known);
        rebuildInto(draft, here, known);
        return draft.answer(key, minute, known);
    }

    private static void rebuildInto(Words rebuilt, Store store, int known) {
        rebuilt.size = 0;
        for (int place = 0; place < store.journalSize; place++) {
            if (Words.toldOf(store.journal[place]) <= known) {
                rebuilt.put(store.journal[place]);
            }
        }
    }

    // ---- the book, and joining

    public int bookRead(int key, int minute, int known)
            throws IndexOutOfBoundsException, IllegalArgumentException {
        needBareKey(key);
        needMinute(minute);
        needMinute(known);
        return book.answer(key, minute, known);
    }

    public int bookBy(int key, int minute, int known)
            throws IndexOutOfBoundsException, IllegalArgumentException {
        needBareKey(key);
        needMinute(minute);
        needMinute(known);
        int spot = book.spotPlace(key, minute, known);
        return spot == NONE ? NONE : book.storeAtPlace(spot);
    }

    public int ofBook(int what) throws IllegalArgumentException {
        needWhat(what, 3);
        switch (what) {
            case 0:
                return book.size;
            case 1:
                return book.keyCount();
            default:
                return book.countFrom(what - 2);
        }
    }

    public int joinedRead(int key, int minute, int known, boolean isOtherFirst)
            throws IndexOutOfBoundsException, IllegalArgumentException {
        needBareKey(key);
        needMinute(minute);
        needMinute(known);
        joinInto(draft, isOtherFirst ? one.words : zero.words, isOtherFirst ? zero.words : one.words);
        return draft.answer(key, minute, known);
    }

    public int joinedWords(int what) throws IllegalArgumentException {
        needWhat(what, 2);
        if (what == 2) {
            joinInto(draft, one.words, book);
            draft.takeAll(zero.words);
            return draft.size;
        }
        joinInto(draft, zero.words, one.words);
        if (what == 1) {
            draft.takeAll(book);
        }
        return draft.size;
    }

    private static void joinInto(Words joined, Words first, Words second) {
        joined.size = 0;
        joined.takeAll(first);
        joined.takeAll(second);
    }

    // ---- all

    public int ofStore(int store, int what)
            throws IndexOutOfBoundsException, IllegalArgumentException {
        needStore(store);
        needWhat(what, 6);
        Store here = storeAt(store);
        switch (what) {
            case 0:
                return here.clock;
            case 1:
                return here.horizon;
            case 2:
                return here.words.keyCount();
            case 3:
                return here.words.size;
            case 4:
                return here.endings.size;
            case 5:
                return here.missed;
            default:
                return here.left;
        }
    }

    public int house(int what) throws IllegalArgumentException {
        needWhat(what, 4);
        switch (what) {
            case 0:
                return watcherCount;
            case 1:
                return windowCount;
            case 2:
                return snapshotCount;
            case 3:
                return knocks;
            default:
                return toldEver;
        }
    }

    public int wouldSpan(int store, int key, int from, int to)
            throws IndexOutOfBoundsException, IllegalArgumentException {
        needKey(store, key);
        needSpan(from, to);
        return planSpan(storeAt(store), key, from, to, 0);
    }

    public int wouldForget(int store, int known)
            throws IndexOutOfBoundsException, IllegalArgumentException, IllegalStateException {
        needStore(store);
        needMinute(known);
        Store here = storeAt(store);
        needKnown(here, known);
        return here.words.outdatedCount(known);
    }

    public boolean isSound() {
        for (int store = 0; store < STORES; store++) {
            Store here = storeAt(store);
            if (!isJournalSound(here) || !here.endings.isOrderly(here.clock)
                    || !readsAlike(here, here.clock) || !readsAlike(here, here.horizon)
                    || !lastsAllMinutes(here)) {
                return false;
            }
        }
        return areWindowsSound() && areSnapshotsSound() && joinsAlike();
    }

    private static boolean isJournalSound(Store store) {
        if (store.journalSize != store.words.size) {
            return false;
        }
        for (int place = 0; place < store.journalSize; place++) {
            if (!store.words.holds(store.journal[place])) {
                return false;
            }
            if (place > 0 && Words.toldOf(store.journal[place]) < Words.toldOf(store.journal[place - 1])) {
                return false;
            }
        }
        return true;
    }

    /** Whether the answer at each period is the same by the store, by its line, and rebuilt. */
    private boolean readsAlike(Store store, int known) {
        rebuildInto(draft, store, known);
        Words words = store.words;
        int byLine = NONE;
        for (int place = 0; place < words.size; place++) {
            int key = words.keyAt(place);
            int period = words.periodAt(place);
            if (place > 0 && words.keyAt(place - 1) != key) {
                byLine = NONE;
            }
            if (words.stands(place, known)) {
                byLine = words.saysAt(place);
            }
            // Ahead of a period's last word its line may not have been met yet.
            boolean isLastOfPeriod = place + 1 >= words.size || !words.isSamePeriod(place, place + 1);
            if (isLastOfPeriod && (words.answer(key, period, known) != byLine
                    || draft.answer(key, period, known) != byLine)) {
                return false;
            }
        }
        return true;
    }

    private boolean lastsAllMinutes(Store store) {
        for (int key = 0; key < KEYS; key++) {
            if (store.words.hasKey(key)) {
                tallyMinutes(store.words, key, store.clock);
                int minutes = 0;
                for (int answer = 0; answer <= VALUES; answer++) {
                    minutes += tally[answer];
                }
                if (minutes != MINUTES) {
                    return false;
                }
            }
        }
        return true;
    }

    private boolean areWindowsSound() {
        for (int number = 0; number < windowCount; number++) {
            Window pane = windows[number];
            Words words = storeAt(pane.store).words;
            int between = 0;
            for (int place = 0; place < words.size; place++) {
                boolean isFirst = place == 0 || !words.isSamePeriod(place - 1, place);
                if (isFirst && words.keyAt(place) == pane.key && pane.hasMinute(words.periodAt(place))) {
                    between++;
                }
            }
            if (between != periodsOf(pane)) {
                return false;
            }
        }
        return true;
    }

    private boolean areSnapshotsSound() {
        for (int number = 0; number < snapshotCount; number++) {
            Snapshot picture = snapshots[number];
            Store here = storeAt(picture.store);
            if (picture.isSettled && here.isKnown(picture.known)) {
                draft.copyLines(here.words, picture.known);
                if (!draft.isSameAs(picture.lines)) {
                    return false;
                }
            }
        }
        return true;
    }

    private boolean joinsAlike() {
        joinInto(draft, zero.words, one.words);
        joinInto(otherDraft, one.words, zero.words);
        if (!draft.isSameAs(otherDraft)) {
            return false;
        }
        draft.takeAll(book);
        joinInto(otherDraft, one.words, book);
        otherDraft.takeAll(zero.words);
        if (!draft.isSameAs(otherDraft)) {
            return false;
        }
        return draft.takeAll(zero.words) == 0 && draft.takeAll(one.words) == 0;
    }

    public long digest() {
        long sum = 4814;
        for (int what = 0; what <= 4; what++) {
            sum = mixed(sum, house(what));
        }
        for (int store = 0; store < STORES; store++) {
            sum = mixedStore(sum, store);
        }
        for (int number = 0; number < watcherCount; number++) {
            for (int what = 0; what <= 5; what++) {
                sum = mixed(sum, heard(number, what));
            }
        }
        for (int number = 0; number < windowCount; number++) {
            for (int what = 0; what <= 6; what++) {
                sum = mixed(sum, ofWindow(number, what));
            }
            sum = mixed(sum, windowRead(number, MINUTES - 1, storeAt(windows[number].store).clock));
        }
        for (int number = 0; number < snapshotCount; number++) {
            sum = mixedSnapshot(sum, number);
        }
        sum = mixedBook(sum);
        return mixed(sum, isSound() ? 1 : 0);
    }

    private static long mixed(long sum, int number) {
        return sum * 31 + number;
    }

    private long mixedStore(long start, int store) {
        long sum = start;
        Store here = storeAt(store);
        for (int what = 0; what <= 6; what++) {
            sum = mixed(sum, ofStore(store, what));
        }
        for (int place = 0; place < here.journalSize; place++) {
            for (int what = 0; what <= 3; what++) {
                sum = mixed(sum, entry(store, place, what));
            }
        }
        for (int place = 0; place < here.endings.size; place++) {
            sum = mixed(sum, ending(store, place));
        }
        for (int key = 0; key < KEYS; key++) {
            sum = mixed(sum, endingOf(store, key));
            sum = mixed(sum, watching(store, key));
            if (here.words.hasKey(key)) {
                sum = mixed(sum, readNow(store, key));
                sum = mixed(sum, read(store, key, MINUTES - 1, here.horizon));
                sum = mixed(sum, lasts(store, key, here.clock, NONE));
                sum = mixed(sum, differ(store, key, here.horizon, here.clock));
                sum = mixed(sum, changes(store, key, here.clock));
                sum = mixed(sum, here.words.lineLength(key, here.clock));
            }
        }
        return sum;
    }

    private long mixedSnapshot(long start, int snap) {
        long sum = start;
        for (int what = 0; what <= 7; what++) {
            sum = mixed(sum, ofSnap(snap, what));
        }
        for (int key = 0; key < KEYS; key++) {
            sum = mixed(sum, snapRead(snap, key, MINUTES - 1));
        }
        return sum;
    }

    private long mixedBook(long start) {
        long sum = start;
        for (int what = 0; what <= 3; what++) {
            sum = mixed(sum, ofBook(what));
        }
        for (int what = 0; what <= 2; what++) {
            sum = mixed(sum, joinedWords(what));
        }
        for (int key = 0; key < KEYS; key++) {
            sum = mixed(sum, bookRead(key, MINUTES - 1, MINUTES - 1));
        }
        return sum;
    }

    // ---- what the calls need

    private Store storeAt(int store) {
        return store == 0 ? zero : one;
    }

    private static void needStore(int store) {
        if (store < 0 || store >= STORES) {
            throw new IndexOutOfBoundsException("there is no such store");
        }
    }

    private static void needBareKey(int key) {
        if (key < 0 || key >= KEYS) {
            throw new IndexOutOfBoundsException("there is no such key");
        }
    }

    private static void needKey(int store, int key) {
        needStore(store);
        needBareKey(key);
    }

    private void needWatcher(int watcher) {
        if (watcher < 0 || watcher >= watcherCount) {
            throw new IndexOutOfBoundsException("there is no such watcher");
        }
    }

    private void needWindow(int window) {
        if (window < 0 || window >= windowCount) {
            throw new IndexOutOfBoundsException("there is no such window");
        }
    }

    private void needSnapshot(int snap) {
        if (snap < 0 || snap >= snapshotCount) {
            throw new IndexOutOfBoundsException("there is no such snapshot");
        }
    }

    private static void needMinute(int minute) {
        if (minute < 0 || minute >= MINUTES) {
            throw new IllegalArgumentException("a minute is 0 to 999");
        }
    }

    private static void needValue(int value) {
        if (value < 0 || value >= VALUES) {
            throw new IllegalArgumentException("a value is 0 to 99");
        }
    }

    private static void needAnswer(int value) {
        if (value != NONE) {
            needValue(value);
        }
    }

    private static void needSpan(int from, int to) {
        if (from < 0 || from >= MINUTES - 1 || to <= from || to >= MINUTES) {
            throw new IllegalArgumentException("from is 0 to 998, to is from + 1 to 999");
        }
    }

    private static void needWhat(int what, int greatest) {
        if (what < 0 || what > greatest) {
            throw new IllegalArgumentException("there is no such question");
        }
    }

    private static void needKnown(Store store, int known) {
        if (!store.isKnown(known)) {
            throw new IllegalStateException("the minute is not known of the store");
        }
    }

    /**
     * Words, each in one long: rising longs are rising keys, periods, minutes told, and stores.
     * So the words about a key, and those about a period of it, stand side by side, the latest
     * one last. The lines of a snapshot are kept as words that were told at minute 0.
     */
    private static final class Words {
        private long[] row;
        private int size;

        Words(int room) {
            row = new long[room];
        }

        static long pack(int key, int period, int told, int store, int says) {
            long about = (long) key << 10 | period;
            return (about << 10 | told) << 8 | store << 7 | (says + 2);
        }

        static int keyOf(long word) {
            return (int) (word >> 28);
        }

        static int periodOf(long word) {
            return (int) (word >> 18) & 1023;
        }

        static int toldOf(long word) {
            return (int) (word >> 8) & 1023;
        }

        static int storeOf(long word) {
            return (int) (word >> 7) & 1;
        }

        static int saysOf(long word) {
            return (int) (word & 127) - 2;
        }

        /** All of a word but what it says: no two words in one row share that. */
        static long nameOf(long word) {
            return word >> 7;
        }

        /** All reading goes through here, so that no place is used that was not looked at. */
        private long at(int place) {
            return place >= 0 && place < size ? row[place] : 0;
        }

        int keyAt(int place) {
            return keyOf(at(place));
        }

        int periodAt(int place) {
            return periodOf(at(place));
        }

        int toldAt(int place) {
            return toldOf(at(place));
        }

        int storeAtPlace(int place) {
            return storeOf(at(place));
        }

        /** What a word says; of one that stands this is the answer too, as ENDED is NONE. */
        int saysAt(int place) {
            return saysOf(at(place));
        }

        /** The first place with at least this number, or the size. */
        int placeOf(long least) {
            int low = 0;
            int high = size;
            for (int step = 0; low < high && step < 32; step++) {
                int middle = (low + high) / 2;
                if (row[middle] < least) {
                    low = middle + 1;
                } else {
                    high = middle;
                }
            }
            return low;
        }

        int firstAbout(int key, int period) {
            return placeOf(pack(key, period, 0, 0, BACK));
        }

        int endOf(int key) {
            return firstAbout(key, MINUTES);
        }

        boolean hasKey(int key) {
            return firstAbout(key, 0) < endOf(key);
        }

        int countAbout(int key, int period) {
            return firstAbout(key, period + 1) - firstAbout(key, period);
        }

        boolean isSamePeriod(int place, int other) {
            return at(place) >> 18 == at(other) >> 18;
        }

        boolean holds(long word) {
            int place = placeOf(word);
            return place < size && at(place) == word;
        }

        /** Where the latest about a key and a period is, known at the clock; NONE if there is none. */
        int latestPlace(int key, int period) {
            int end = firstAbout(key, period + 1);
            return end > firstAbout(key, period) ? end - 1 : NONE;
        }

        boolean stands(int place, int known) {
            long word = at(place);
            if (toldOf(word) > known || saysOf(word) == BACK) {
                return false;
            }
            long next = at(place + 1);
            return place + 1 >= size || next >> 18 != word >> 18 || toldOf(next) > known;
        }

        /** Where the latest at the spot is; NONE if there is no spot. */
        int spotPlace(int key, int minute, int known) {
            int first = firstAbout(key, 0);
            for (int place = firstAbout(key, minute + 1) - 1; place >= first; place--) {
                if (stands(place, known)) {
                    return place;
                }
            }
            return NONE;
        }

        int firstStanding(int key, int from, int known) {
            int end = endOf(key);
            for (int place = firstAbout(key, from); place < end; place++) {
                if (stands(place, known)) {
                    return place;
                }
            }
            return NONE;
        }

        int answer(int key, int minute, int known) {
            int spot = spotPlace(key, minute, known);
            return spot == NONE ? NONE : saysAt(spot);
        }

        int unlikeMinutes(int key, int known, int other) {
            int count = 0;
            int from = 0;
            int answer = NONE;
            int otherAnswer = NONE;
            int end = endOf(key);
            for (int place = firstAbout(key, 0); place < end; place++) {
                int period = periodAt(place);
                count += answer == otherAnswer ? 0 : period - from;
                from = period;
                answer = stands(place, known) ? saysAt(place) : answer;
                otherAnswer = stands(place, other) ? saysAt(place) : otherAnswer;
            }
            return count + (answer == otherAnswer ? 0 : MINUTES - from);
        }

        /** How long the line is as a text, without making the text. */
        int lineLength(int key, int known) {
            int length = 0;
            int end = endOf(key);
            for (int place = firstAbout(key, 0); place < end; place++) {
                if (stands(place, known)) {
                    length += length > 0 ? 1 : 0;
                    length += digits(periodAt(place)) + 1 + digits(saysAt(place));
                }
            }
            return length;
        }

        /** The signs of a number up to 999; ENDED, too, is one sign in a line. */
        private static int digits(int number) {
            if (number < 10) {
                return 1;
            }
            return number < 100 ? 2 : 3;
        }

        int periodCount(int key, int from, int to) {
            int count = 0;
            int first = firstAbout(key, from);
            int end = firstAbout(key, to + 1);
            for (int place = first; place < end; place++) {
                if (place == first || !isSamePeriod(place - 1, place)) {
                    count++;
                }
            }
            return count;
        }

        int keyCount() {
            int count = 0;
            for (int place = 0; place < size; place++) {
                if (place == 0 || keyAt(place - 1) != keyAt(place)) {
                    count++;
                }
            }
            return count;
        }

        int countFrom(int store) {
            int count = 0;
            for (int place = 0; place < size; place++) {
                if (storeAtPlace(place) == store) {
                    count++;
                }
            }
            return count;
        }

        void put(long word) {
            if (size >= row.length) {
                return;
            }
            int place = placeOf(word);
            System.arraycopy(row, place, row, place + 1, size - place);
            row[place] = word;
            size++;
        }

        private boolean makeRoom(int count) {
            if (count > MOST_KEPT) {
                return false;
            }
            if (count > row.length) {
                row = Arrays.copyOf(row, Math.max(count, Math.min(2 * row.length, MOST_KEPT)));
            }
            return true;
        }

        /** Puts in all words of another row that are not here yet; how many came. */
        int takeAll(Words other) {
            int fresh = 0;
            for (int place = 0; place < other.size; place++) {
                if (!hasName(nameOf(other.at(place)))) {
                    fresh++;
                }
            }
            if (fresh == 0 || !makeRoom(size + fresh)) {
                return 0;
            }
            mergeFromBehind(other, fresh);
            size += fresh;
            return fresh;
        }

        private boolean hasName(long name) {
            int place = placeOf(name << 7);
            return place < size && nameOf(at(place)) == name;
        }

        // From behind no word is written over that is still to be moved.
        private void mergeFromBehind(Words other, int fresh) {
            int mine = size - 1;
            int its = other.size - 1;
            for (int place = size + fresh - 1; place >= 0 && its >= 0; place--) {
                long last = other.at(its);
                if (mine >= 0 && nameOf(at(mine)) >= nameOf(last)) {
                    its -= nameOf(at(mine)) == nameOf(last) ? 1 : 0;
                    row[place] = at(mine);
                    mine--;
                } else {
                    row[place] = last;
                    its--;
                }
            }
        }

        boolean isSameAs(Words other) {
            if (size != other.size) {
                return false;
            }
            for (int place = 0; place < size; place++) {
                if (at(place) != other.at(place)) {
                    return false;
                }
            }
            return true;
        }

        private boolean isOutdated(int place, int known) {
            int next = place + 1;
            return next < size && isSamePeriod(place, next) && toldAt(next) <= known;
        }

        int outdatedCount(int known) {
            int count = 0;
            for (int place = 0; place < size; place++) {
                if (isOutdated(place, known)) {
                    count++;
                }
            }
            return count;
        }

        void removeOutdated(int known) {
            int kept = 0;
            for (int place = 0; place < size; place++) {
                if (!isOutdated(place, known)) {
                    row[kept] = at(place);
                    kept++;
                }
            }
            size = kept;
        }

        /** Becomes the lines of all keys of another row. */
        void copyLines(Words from, int known) {
            size = 0;
            for (int place = 0; place < from.size && size < row.length; place++) {
                if (from.stands(place, known)) {
                    row[size] = pack(from.keyAt(place), from.periodAt(place), 0, 0, from.saysAt(place));
                    size++;
                }
            }
        }

        /** How many keys and periods have an entry in just one of two rows of lines, or unlike ones. */
        int unlikeEntries(Words other) {
            int same = 0;
            int shared = 0;
            for (int place = 0; place < size; place++) {
                same += other.holds(at(place)) ? 1 : 0;
                shared += other.hasName(nameOf(at(place))) ? 1 : 0;
            }
            return size + other.size - shared - same;
        }
    }

    /** One store: its clock, its words and their journal, its endings, and who listens. */
    private static final class Store {
        private final int number;
        private final Words words;
        private final long[] journal;
        private int journalSize;
        private final Endings endings;
        private final int[] listeners;
        private final int[] listenerCounts;
        private int clock;
        private int horizon;
        private int missed;
        private int left;

        Store(int number) {
            this.number = number;
            words = new Words(MOST_WORDS);
            journal = new long[MOST_WORDS];
            endings = new Endings();
            listeners = new int[KEYS * MOST_WATCHERS];
            listenerCounts = new int[KEYS];
        }

        boolean isKnown(int minute) {
            return minute >= horizon && minute <= clock;
        }

        boolean mayTell(int key, int period, int says) {
            if (words.size >= MOST_WORDS) {
                return false;
            }
            int latest = words.latestPlace(key, period);
            if (latest == NONE) {
                return says != BACK;
            }
            if (words.toldAt(latest) == clock) {
                return false;
            }
            return says != BACK || words.saysAt(latest) != BACK;
        }

        void lay(int key, int period, int says) {
            if (journalSize < MOST_WORDS) {
                long word = Words.pack(key, period, clock, number, says);
                words.put(word);
                journal[journalSize] = word;
                journalSize++;
            }
        }

        /** The least minute behind another one at which words about a key were told, or NONE. */
        int nextTold(int key, int after) {
            for (int place = 0; place < journalSize; place++) {
                int told = Words.toldOf(journal[place]);
                if (told > after && Words.keyOf(journal[place]) == key) {
                    return told;
                }
            }
            return NONE;
        }

        int forgetUpTo(int known) {
            int before = journalSize;
            words.removeOutdated(known);
            int kept = 0;
            for (int place = 0; place < before; place++) {
                if (words.holds(journal[place])) {
                    journal[kept] = journal[place];
                    kept++;
                }
            }
            journalSize = kept;
            horizon = known;
            left += before - kept;
            return before - kept;
        }

        private int placeOfListener(int key, int watcher) {
            for (int place = 0; place < listenerCounts[key]; place++) {
                if (listeners[key * MOST_WATCHERS + place] == watcher) {
                    return place;
                }
            }
            return NONE;
        }

        boolean addListener(int key, int watcher) {
            if (placeOfListener(key, watcher) != NONE || listenerCounts[key] >= MOST_WATCHERS) {
                return false;
            }
            listeners[key * MOST_WATCHERS + listenerCounts[key]] = watcher;
            listenerCounts[key]++;
            return true;
        }

        boolean removeListener(int key, int watcher) {
            int gone = placeOfListener(key, watcher);
            if (gone == NONE) {
                return false;
            }
            listenerCounts[key]--;
            for (int place = gone; place < listenerCounts[key]; place++) {
                int at = key * MOST_WATCHERS + place;
                listeners[at] = listeners[at + 1];
            }
            return true;
        }
    }

    /** The endings of a store as they stand: by minutes, within a minute as they were told. */
    private static final class Endings {
        private final int[] keys;
        private final int[] minutes;
        private int size;

        Endings() {
            keys = new int[KEYS];
            minutes = new int[KEYS];
        }

        int placeOf(int key) {
            for (int place = 0; place < size; place++) {
                if (keys[place] == key) {
                    return place;
                }
            }
            return NONE;
        }

        int minuteOf(int key) {
            int place = placeOf(key);
            return place == NONE ? NONE : minutes[place];
        }

        int countAt(int minute) {
            int count = 0;
            for (int place = 0; place < size; place++) {
                if (minutes[place] == minute) {
                    count++;
                }
            }
            return count;
        }

        void removeAt(int gone) {
            if (gone < 0 || gone >= size) {
                return;
            }
            size--;
            for (int place = gone; place < size; place++) {
                keys[place] = keys[place + 1];
                minutes[place] = minutes[place + 1];
            }
        }

        void put(int key, int minute) {
            int old = placeOf(key);
            if (old != NONE && minutes[old] == minute) {
                return;
            }
            removeAt(old);
            if (size >= KEYS) {
                return;
            }
            int place = size;
            while (place > 0 && minutes[place - 1] > minute) {
                keys[place] = keys[place - 1];
                minutes[place] = minutes[place - 1];
                place--;
            }
            keys[place] = key;
            minutes[place] = minute;
            size++;
        }

        boolean isOrderly(int clock) {
            for (int place = 0; place < size; place++) {
                if (minutes[place] <= clock || placeOf(keys[place]) != place) {
                    return false;
                }
                if (place > 0 && minutes[place] < minutes[place - 1]) {
                    return false;
                }
            }
            return true;
        }
    }

    /** A watcher, and what it heard. */
    private static final class Watcher {
        private int kind;
        private int number;
        private int heardWords;
        private int valueSum;
        private int heardEnded;
        private int heardBack;

        void begin(int newKind, int newNumber) {
            kind = newKind;
            number = newNumber;
        }

        void countWord(int says) {
            heardWords++;
            if (says == ENDED) {
                heardEnded++;
            } else if (says == BACK) {
                heardBack++;
            } else {
                valueSum += says;
            }
        }
    }

    /** A window; those that are shut wait at the end of their row to be opened again. */
    private static final class Window {
        private int store;
        private int key;
        private int from;
        private int to;

        void open(int newStore, int newKey, int newFrom, int newTo) {
            store = newStore;
            key = newKey;
            from = newFrom;
            to = newTo;
        }

        boolean hasMinute(int minute) {
            return minute >= from && minute <= to;
        }
    }

    /** A snapshot; those that are dropped wait at the end of their row to be made again. */
    private static final class Snapshot {
        private final Words lines;
        private int store;
        private int known;
        private boolean isSettled;
        private int mark;

        Snapshot() {
            lines = new Words(MOST_WORDS);
        }

        void take(Store from, int minute) {
            store = from.number;
            known = minute;
            isSettled = minute < from.clock;
            mark = NONE;
            lines.copyLines(from.words, minute);
        }

        /** Of the entry at the mark: 5 the key, 6 the period, 7 what is said. */
        int ofMark(int what) {
            if (mark < 0 || mark >= lines.size) {
                return NONE;
            }
            if (what == 5) {
                return lines.keyAt(mark);
            }
            return what == 6 ? lines.periodAt(mark) : lines.saysAt(mark);
        }
    }
}
