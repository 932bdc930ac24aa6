import java.lang.reflect.Field;

/**
 * Promise 60: isSound() looks at what it tells of. No call can bring about a state that is not sound, so
 * these tests reach into the object, spoil one thing at a time, and then ask.
 */
final class SoundTest {
    public static void main(String[] args) throws ReflectiveOperationException {
        TimeStore x = sound();
        Check.due(60, x.isSound(), true);
        journal();
        endings();
        words();
        snapshot();
        book();
        Check.finish();
    }

    private static TimeStore sound() {
        TimeStore x = new TimeStore();
        x.tell(0, 0, 10, 1);
        x.tell(0, 0, 20, 2);
        x.tick(0, 2);
        x.tell(0, 0, 20, 3);
        x.end(0, 1, 30);
        x.endAt(0, 0, 50);
        x.endAt(0, 1, 60);
        x.endAt(0, 2, 70);
        x.snap(0, 1);
        x.window(0, 0, 0, 15);
        x.gather(0);
        x.tell(1, 0, 10, 1);
        return x;
    }

    private static Object of(Object object, String field) throws ReflectiveOperationException {
        Field found = object.getClass().getDeclaredField(field);
        found.setAccessible(true);
        return found.get(object);
    }

    private static void set(Object object, String field, Object value) throws ReflectiveOperationException {
        Field found = object.getClass().getDeclaredField(field);
        found.setAccessible(true);
        found.set(object, value);
    }

    private static void unsound(TimeStore x) {
        Check.due(60, x.isSound(), false);
    }

    private static void journal() throws ReflectiveOperationException {
        TimeStore x = sound();
        long[] journal = (long[]) of(of(x, "zero"), "journal");
        long first = journal[0];
        journal[0] = journal[2];
        journal[2] = first;
        unsound(x);
        x = sound();
        // A word of the journal that does not lie in the store.
        ((long[]) of(of(x, "zero"), "journal"))[3]++;
        unsound(x);
        x = sound();
        set(of(x, "zero"), "journalSize", 3);
        unsound(x);
        x = sound();
        // Two words that no reading at the clock or the horizon, and no order, would tell apart.
        x = new TimeStore();
        for (int value = 1; value <= 2; value++) {
            x.tick(0, 1);
            x.tell(0, 0, 10, value);
        }
        ((long[]) of(of(x, "zero"), "journal"))[0]++;
        unsound(x);
        // One word twice, and so another one not at all: rebuilt it is missing.
        x = sound();
        journal = (long[]) of(of(x, "zero"), "journal");
        journal[1] = journal[0];
        unsound(x);
        x = sound();
        // A word about another key, told first: the place is right, the store has another one.
        ((long[]) of(of(x, "one"), "journal"))[0] += 1L << 28;
        unsound(x);
    }

    private static void endings() throws ReflectiveOperationException {
        int[][] minutes = {{2, 60, 70}, {1, 60, 70}, {61, 60, 70}, {50, 60, 59}};
        for (int[] wrong : minutes) {
            TimeStore x = sound();
            System.arraycopy(wrong, 0, (int[]) of(of(of(x, "zero"), "endings"), "minutes"), 0, 3);
            unsound(x);
        }
        TimeStore x = sound();
        ((int[]) of(of(of(x, "zero"), "endings"), "keys"))[2] = 0;
        unsound(x);
        x = sound();
        System.arraycopy(new int[] {3, 60, 60}, 0, (int[]) of(of(of(x, "zero"), "endings"), "minutes"), 0, 3);
        Check.due(60, x.isSound(), true);
    }

    private static void words() throws ReflectiveOperationException {
        TimeStore x = sound();
        // Two words in the wrong order in the store alone.
        long[] row = (long[]) of(of(of(x, "zero"), "words"), "row");
        long first = row[0];
        row[0] = row[1];
        row[1] = first;
        unsound(x);
    }

    private static void snapshot() throws ReflectiveOperationException {
        TimeStore x = sound();
        Object picture = ((Object[]) of(x, "snapshots"))[0];
        long[] row = (long[]) of(of(picture, "lines"), "row");
        row[0]++;
        unsound(x);
        // One that is not settled, or whose minute is not known any more, is not held against a new one.
        set(picture, "isSettled", false);
        Check.due(60, x.isSound(), true);
        set(picture, "isSettled", true);
        unsound(x);
        x.forget(0, 2);
        Check.due(60, x.isSound(), true);
        x = sound();
        set(of(((Object[]) of(x, "snapshots"))[0], "lines"), "size", 1);
        unsound(x);
    }

    private static void book() throws ReflectiveOperationException {
        TimeStore x = sound();
        // A word of store 0 that says something else in the book: who goes first makes a difference then.
        ((long[]) of(of(x, "book"), "row"))[0]++;
        unsound(x);
        x.emptyBook();
        Check.due(60, x.isSound(), true);
    }
}
