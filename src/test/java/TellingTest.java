/** Promises 1 to 6: a new object, and telling. */
final class TellingTest {
    public static void main(String[] args) {
        newObject();
        tell();
        tellThrows();
        tellFull();
        tellSpan();
        tellSpanEdges();
        tellSpanThrows();
        spanFull();
        end();
        takeBack();
        tamper();
        Check.finish();
    }

    private static void newObject() {
        TimeStore x = new TimeStore();
        for (int store = 0; store < 2; store++) {
            for (int what = 0; what <= 6; what++) {
                Check.due(1, x.ofStore(store, what), 0);
            }
            Check.due(1, x.line(store, 39, 0), "");
            Check.due(1, x.nextEnding(store), -9);
            Check.due(1, x.watching(store, 0), 0);
        }
        for (int what = 0; what <= 4; what++) {
            Check.due(1, x.house(what), 0);
        }
        Check.due(1, x.ofBook(0), 0);
        Check.due(1, x.isSound(), true);
    }

    private static void tell() {
        TimeStore x = new TimeStore();
        Check.due(2, x.tell(0, 0, 0, 0), 1);
        Check.due(2, x.tell(0, 39, 999, 99), 1);
        Check.due(2, x.tell(1, 39, 999, 98), 1);
        Check.due(2, x.read(0, 0, 999, 0), 0);
        Check.due(2, x.read(0, 39, 999, 0), 99);
        Check.due(2, x.read(0, 39, 998, 0), -1);
        Check.due(2, x.read(1, 39, 999, 0), 98);
        x.tick(0, 1);
        Check.due(2, x.tell(0, 0, 0, 5), 1);
        Check.due(2, x.read(0, 0, 0, 0), 0);
        Check.due(2, x.read(0, 0, 0, 1), 5);
        Check.due(2, x.entry(0, 2, 0), 1);
        Check.due(2, x.entry(0, 2, 3), 5);
        // A word told is counted with those that were wanted and told, in both stores, not the missed.
        TimeStore y = new TimeStore();
        y.watcher(2, 0);
        y.watcher(1, 7);
        y.watch(0, 0, 3);
        y.watch(0, 1, 3);
        y.watch(1, 0, 3);
        Check.due(2, y.tell(0, 3, 10, 4), 3);
        Check.due(2, y.ofStore(0, 5), 1);
        Check.due(2, y.line(1, 3, 0), "10:4");
        Check.due(2, y.line(0, 7, 0), "10:4");
        Check.due(2, y.house(4), 3);
    }

    private static void tellThrows() {
        TimeStore x = new TimeStore();
        x.tell(0, 0, 5, 1);
        Check.index(2, x, () -> x.tell(-1, 0, 6, 1));
        Check.index(2, x, () -> x.tell(2, 0, 6, 1));
        Check.index(2, x, () -> x.tell(0, -1, 6, 1));
        Check.index(2, x, () -> x.tell(0, 40, 1000, 100));
        Check.index(2, x, () -> x.tell(Integer.MAX_VALUE, Integer.MIN_VALUE, 6, 1));
        Check.argument(2, x, () -> x.tell(0, 0, -1, 1));
        Check.argument(2, x, () -> x.tell(0, 0, 1000, 1));
        Check.argument(2, x, () -> x.tell(0, 0, 5, -1));
        Check.argument(2, x, () -> x.tell(0, 0, 5, 100));
        Check.state(2, x, () -> x.tell(0, 0, 5, 1));
        x.takeBack(0, 0, 5 + 0 * x.tick(0, 1));
        Check.state(2, x, () -> x.tell(0, 0, 5, 2));
    }

    /** Fills store 0 with 120 words, about keys 0 to 39 and periods 0 to 2. */
    static TimeStore full() {
        TimeStore x = new TimeStore();
        for (int period = 0; period < 3; period++) {
            for (int key = 0; key < 40; key++) {
                x.tell(0, key, period, period);
            }
        }
        return x;
    }

    private static void tellFull() {
        TimeStore x = full();
        Check.due(2, x.ofStore(0, 3), 120);
        x.tick(0, 1);
        Check.state(2, x, () -> x.tell(0, 0, 900, 1));
        Check.state(4, x, () -> x.end(0, 0, 900));
        Check.state(5, x, () -> x.takeBack(0, 0, 0));
        Check.due(2, x.tell(1, 0, 900, 1), 1);
        Check.argument(2, x, () -> x.tell(0, 0, 900, 100));
    }

    private static void tellSpan() {
        TimeStore x = new TimeStore();
        x.tell(0, 0, 10, 1);
        x.tell(0, 0, 20, 2);
        x.tell(0, 0, 30, 3);
        x.tell(0, 0, 40, 4);
        x.tick(0, 1);
        // 15, back about 20 and 30, and 35 with what held there.
        Check.due(3, x.tellSpan(0, 0, 15, 35, 9), 4);
        Check.due(3, x.line(0, 0, 1), "10:1 15:9 35:3 40:4");
        Check.due(3, x.line(0, 0, 0), "10:1 20:2 30:3 40:4");
        int[][] told = {{15, 9}, {20, -2}, {30, -2}, {35, 3}};
        for (int place = 0; place < told.length; place++) {
            Check.due(3, x.entry(0, 4 + place, 2), told[place][0]);
            Check.due(3, x.entry(0, 4 + place, 3), told[place][1]);
            Check.due(3, x.entry(0, 4 + place, 0), 1);
        }
        x.tick(0, 1);
        // The last minute is a period that stands: no word about it, nor back about the first.
        Check.due(3, x.tellSpan(0, 0, 10, 35, 7), 2);
        Check.due(3, x.line(0, 0, 2), "10:7 35:3 40:4");
        x.tick(0, 1);
        // A period taken back does not stand at the last minute: it says again what holds there.
        x.takeBack(0, 0, 40);
        x.tick(0, 1);
        Check.due(3, x.tellSpan(0, 0, 36, 40, 8), 2);
        Check.due(3, x.line(0, 0, 4), "10:7 35:3 36:8 40:3");
    }

    private static void tellSpanEdges() {
        TimeStore x = new TimeStore();
        Check.due(3, x.tellSpan(0, 0, 998, 999, 99), 2);
        Check.due(3, x.line(0, 0, 0), "998:99 999:x");
        Check.due(3, x.tellSpan(1, 39, 0, 999, 0), 2);
        Check.due(3, x.line(1, 39, 0), "0:0 999:x");
        // ENDED holds at the last minute, by its line, and is said again.
        TimeStore y = new TimeStore();
        y.end(0, 0, 5);
        y.tick(0, 1);
        Check.due(3, y.tellSpan(0, 0, 3, 6, 1), 3);
        Check.due(3, y.line(0, 0, 1), "3:1 6:x");
        // What the line has at the last minute is as it was ahead of the act.
        TimeStore z = new TimeStore();
        Check.due(3, z.tellSpan(0, 0, 10, 20, 1), 2);
        Check.due(3, z.line(0, 0, 0), "10:1 20:x");
        // All own words go ahead of what they make wanted: key 1 has both in turn, key 2 later.
        TimeStore w = new TimeStore();
        w.watcher(1, 1);
        w.watcher(1, 2);
        w.watch(0, 0, 0);
        w.watch(1, 0, 1);
        Check.due(3, w.tellSpan(0, 0, 10, 20, 6), 6);
        int[] keys = {0, 0, 1, 1, 2, 2};
        int[] periods = {10, 20, 10, 20, 10, 20};
        for (int place = 0; place < keys.length; place++) {
            Check.due(3, w.entry(0, place, 1), keys[place]);
            Check.due(3, w.entry(0, place, 2), periods[place]);
        }
    }

    private static void tellSpanThrows() {
        TimeStore x = new TimeStore();
        x.tell(0, 0, 20, 2);
        x.tell(0, 1, 10, 2);
        x.takeBack(0, 1, 10 + 0 * x.tick(0, 1));
        x.tell(0, 0, 30, 3);
        Check.index(3, x, () -> x.tellSpan(2, 0, 5, 4, 1));
        Check.index(3, x, () -> x.tellSpan(-1, 0, 0, 1, 1));
        Check.index(3, x, () -> x.tellSpan(0, 40, 0, 1, 100));
        Check.index(3, x, () -> x.tellSpan(0, -1, 0, 1, 1));
        Check.argument(3, x, () -> x.tellSpan(0, 0, -1, 5, 1));
        Check.argument(3, x, () -> x.tellSpan(0, 0, 999, 1000, 1));
        Check.argument(3, x, () -> x.tellSpan(0, 0, 999, 999, 1));
        Check.argument(3, x, () -> x.tellSpan(0, 0, 5, 5, 1));
        Check.argument(3, x, () -> x.tellSpan(0, 0, 5, 4, 1));
        Check.argument(3, x, () -> x.tellSpan(0, 0, 5, 1000, 1));
        Check.argument(3, x, () -> x.tellSpan(0, 0, 5, 6, -1));
        Check.argument(3, x, () -> x.tellSpan(0, 0, 30, 40, 100));
        // The first word, one with BACK, and the last word were told at the clock already.
        Check.state(3, x, () -> x.tellSpan(0, 0, 30, 40, 1));
        Check.state(3, x, () -> x.tellSpan(0, 0, 25, 40, 1));
        Check.state(3, x, () -> x.tellSpan(0, 1, 5, 10, 1));
        Check.due(3, x.tellSpan(0, 0, 25, 30, 1), 1);
    }

    private static void spanFull() {
        TimeStore x = new TimeStore();
        for (int number = 0; number < 118; number++) {
            x.tell(0, number % 40, number / 40, 1);
        }
        Check.due(58, x.wouldSpan(0, 0, 100, 200), 2);
        x.tell(0, 39, 500, 1);
        Check.due(58, x.wouldSpan(0, 0, 100, 200), -9);
        Check.state(3, x, () -> x.tellSpan(0, 0, 100, 200, 1));
        x.tell(0, 0, 200, 1);
        Check.state(3, x, () -> x.tellSpan(0, 0, 100, 200, 1));
        TimeStore y = new TimeStore();
        for (int number = 0; number < 118; number++) {
            y.tell(0, number % 40, number / 40, 1);
        }
        Check.due(3, y.tellSpan(0, 0, 100, 200, 1), 2);
        // The longest: 60 periods, of which 59 are taken back.
        TimeStore z = new TimeStore();
        for (int period = 0; period < 60; period++) {
            z.tell(0, 0, period, period);
        }
        z.tick(0, 1);
        Check.due(3, z.tellSpan(0, 0, 0, 59, 99), 59);
        Check.due(3, z.line(0, 0, 1), "0:99 59:59");
        Check.due(3, z.ofStore(0, 3), 119);
    }

    private static void end() {
        TimeStore x = new TimeStore();
        x.tell(0, 0, 10, 1);
        Check.due(4, x.end(0, 0, 20), 1);
        Check.due(4, x.read(0, 0, 19, 0), 1);
        Check.due(4, x.read(0, 0, 20, 0), -1);
        Check.due(4, x.line(0, 0, 0), "10:1 20:x");
        Check.due(4, x.end(1, 39, 999), 1);
        Check.due(4, x.word(1, 39, 999, 0, 1), -1);
        Check.index(4, x, () -> x.end(2, 0, 1000));
        Check.index(4, x, () -> x.end(-1, 0, 0));
        Check.index(4, x, () -> x.end(0, 40, 0));
        Check.index(4, x, () -> x.end(0, -1, 0));
        Check.argument(4, x, () -> x.end(0, 0, -1));
        Check.argument(4, x, () -> x.end(0, 0, 1000));
        Check.state(4, x, () -> x.end(0, 0, 10));
        Check.state(4, x, () -> x.end(0, 0, 20));
        x.tick(0, 1);
        Check.due(4, x.end(0, 0, 10), 1);
        Check.due(4, x.line(0, 0, 1), "10:x 20:x");
        TimeStore y = new TimeStore();
        y.watcher(2, 0);
        y.watch(0, 0, 0);
        Check.due(4, y.end(0, 0, 7), 2);
        Check.due(4, y.line(1, 0, 0), "7:x");
    }

    private static void takeBack() {
        TimeStore x = new TimeStore();
        x.tell(0, 0, 10, 1);
        x.tell(0, 0, 20, 2);
        x.end(0, 0, 30);
        Check.index(5, x, () -> x.takeBack(2, 0, 10));
        Check.index(5, x, () -> x.takeBack(-1, 0, 10));
        Check.index(5, x, () -> x.takeBack(0, 40, 10));
        Check.index(5, x, () -> x.takeBack(0, -1, 1000));
        Check.argument(5, x, () -> x.takeBack(0, 0, -1));
        Check.argument(5, x, () -> x.takeBack(0, 0, 1000));
        Check.state(5, x, () -> x.takeBack(0, 0, 10));
        x.tick(0, 1);
        Check.state(5, x, () -> x.takeBack(0, 0, 11));
        Check.state(5, x, () -> x.takeBack(1, 0, 10));
        Check.due(5, x.takeBack(0, 0, 20), 1);
        Check.due(5, x.takeBack(0, 0, 30), 1);
        Check.due(5, x.line(0, 0, 1), "10:1");
        Check.due(5, x.read(0, 0, 25, 1), 1);
        Check.due(5, x.read(0, 0, 25, 0), 2);
        Check.due(5, x.word(0, 0, 20, 1, 1), -2);
        x.tick(0, 1);
        Check.state(5, x, () -> x.takeBack(0, 0, 20));
        Check.due(5, x.tell(0, 0, 20, 5), 1);
        x.tick(0, 1);
        Check.due(5, x.takeBack(0, 0, 20), 1);
        // BACK is wanted by others, and missed where nothing stands.
        TimeStore y = new TimeStore();
        y.watcher(1, 1);
        y.watcher(2, 0);
        y.tell(0, 0, 5, 1);
        y.tell(0, 1, 5, 2);
        y.tick(0, 1);
        y.watch(0, 0, 0);
        y.watch(1, 0, 0);
        Check.due(5, y.takeBack(0, 0, 5), 2);
        Check.due(5, y.ofStore(1, 5), 1);
        Check.due(5, y.line(0, 1, 1), "");
    }

    private static void tamper() {
        TimeStore x = new TimeStore();
        x.tell(0, 0, 10, 1);
        x.tell(0, 1, 0, 1);
        Check.refused(6, x, () -> x.tamper(0, 0, 10, 50));
        Check.due(6, x.tamper(0, 0, 11, 50), -1);
        Check.due(6, x.tamper(0, 0, 999, 99), -1);
        Check.due(6, x.tamper(1, 0, 10, 0), -1);
        x.tick(0, 1);
        x.takeBack(0, 0, 10);
        Check.refused(6, x, () -> x.tamper(0, 0, 10, 0));
        Check.index(6, x, () -> x.tamper(2, 0, 10, 100));
        Check.index(6, x, () -> x.tamper(-1, 0, 10, 1));
        Check.index(6, x, () -> x.tamper(0, 40, 1000, 1));
        Check.index(6, x, () -> x.tamper(0, -1, 10, 1));
        Check.argument(6, x, () -> x.tamper(0, 0, -1, 1));
        Check.argument(6, x, () -> x.tamper(0, 0, 1000, 1));
        Check.argument(6, x, () -> x.tamper(0, 0, 10, -1));
        Check.argument(6, x, () -> x.tamper(0, 0, 10, 100));
    }
}
