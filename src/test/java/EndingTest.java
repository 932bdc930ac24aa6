/** Promises 7 to 12 and 36 to 42: clocks, endings, and who listens. */
final class EndingTest {
    public static void main(String[] args) {
        tick();
        tickThrows();
        tickOrder();
        endAt();
        endNever();
        endingAnswers();
        watcher();
        watch();
        unwatch();
        kinds();
        kindThree();
        wantedRow();
        heard();
        manyWanted();
        Check.finish();
    }

    private static void tick() {
        TimeStore x = new TimeStore();
        Check.due(7, x.tick(0, 1), 0);
        Check.due(7, x.ofStore(0, 0), 1);
        Check.due(7, x.ofStore(1, 0), 0);
        Check.due(7, x.tick(0, 200), 0);
        Check.due(7, x.ofStore(0, 0), 201);
        TimeStore y = new TimeStore();
        y.tell(0, 0, 0, 1);
        y.tell(0, 1, 0, 2);
        y.endAt(0, 0, 5);
        y.endAt(0, 1, 6);
        y.endAt(0, 2, 7);
        Check.due(7, y.tick(0, 4), 0);
        Check.due(7, y.tick(0, 2), 2);
        Check.due(7, y.line(0, 0, 5), "0:1 5:x");
        Check.due(7, y.line(0, 1, 5), "0:2");
        Check.due(7, y.line(0, 1, 6), "0:2 6:x");
        Check.due(7, y.word(0, 1, 6, 0, 0), 6);
        Check.due(7, y.ofStore(0, 4), 1);
        Check.due(7, y.tick(0, 200), 1);
        Check.due(7, y.word(0, 2, 7, 0, 0), 7);
        Check.due(7, y.ofStore(0, 0), 206);
        // The words of endings that a full store misses count among what came.
        TimeStore z = TellingTest.full();
        z.endAt(0, 3, 2);
        z.endAt(0, 4, 9);
        Check.due(7, z.tick(0, 9), 2);
        Check.due(7, z.ofStore(0, 5), 2);
        Check.due(7, z.ofStore(0, 3), 120);
        Check.due(7, z.ofStore(0, 4), 0);
    }

    private static void tickThrows() {
        TimeStore x = new TimeStore();
        Check.index(7, x, () -> x.tick(2, 0));
        Check.index(7, x, () -> x.tick(-1, 1));
        Check.argument(7, x, () -> x.tick(0, 0));
        Check.argument(7, x, () -> x.tick(0, -1));
        Check.argument(7, x, () -> x.tick(0, 201));
        Check.argument(7, x, () -> x.tick(0, Integer.MAX_VALUE));
        for (int hundreds = 0; hundreds < 9; hundreds++) {
            x.tick(0, 100);
        }
        x.endAt(0, 0, 950);
        Check.state(7, x, () -> x.tick(0, 100));
        Check.argument(7, x, () -> x.tick(0, 201));
        Check.due(7, x.tick(0, 99), 1);
        Check.due(7, x.ofStore(0, 0), 999);
        Check.state(7, x, () -> x.tick(0, 1));
    }

    private static void tickOrder() {
        // All endings of a minute are told ahead of what they make wanted.
        TimeStore x = new TimeStore();
        x.watcher(1, 9);
        x.watch(0, 0, 2);
        x.watch(0, 0, 1);
        x.endAt(0, 2, 3);
        x.endAt(0, 1, 3);
        Check.due(7, x.tick(0, 3), 2);
        int[] keys = {2, 1, 9};
        for (int place = 0; place < 3; place++) {
            Check.due(7, x.entry(0, place, 1), keys[place]);
            Check.due(7, x.entry(0, place, 2), 3);
            Check.due(7, x.entry(0, place, 3), -1);
        }
        Check.due(7, x.ofStore(0, 3), 3);
        Check.due(7, x.ofStore(0, 5), 1);
        // What an earlier minute makes wanted is told at that minute, ahead of a later minute's words.
        TimeStore y = new TimeStore();
        y.watcher(1, 9);
        y.watch(0, 0, 1);
        y.endAt(0, 1, 2);
        y.endAt(0, 5, 4);
        Check.due(7, y.tick(0, 10), 2);
        Check.due(7, y.entry(0, 1, 1), 9);
        Check.due(7, y.entry(0, 1, 0), 2);
        Check.due(7, y.entry(0, 2, 1), 5);
        Check.due(7, y.entry(0, 2, 0), 4);
        // A word told at that minute already is missed.
        TimeStore z = new TimeStore();
        z.watcher(1, 5);
        z.watch(0, 0, 1);
        z.endAt(0, 1, 2);
        z.tick(0, 1);
        z.endAt(0, 5, 2);
        Check.due(7, z.tick(0, 1), 2);
        Check.due(7, z.ofStore(0, 5), 1);
    }

    private static void endAt() {
        TimeStore x = new TimeStore();
        x.tick(0, 4);
        Check.due(8, x.endAt(0, 0, 5), -1);
        Check.due(8, x.endAt(0, 0, 999), 5);
        Check.due(8, x.endAt(0, 0, 999), 999);
        Check.due(8, x.endAt(1, 39, 1), -1);
        Check.due(8, x.endingOf(0, 0), 999);
        // The same minute keeps the place; another one leaves it, and stands last there.
        x.endAt(0, 1, 999);
        x.endAt(0, 2, 999);
        x.endAt(0, 0, 999);
        Check.due(8, x.ending(0, 0), 0);
        x.endAt(0, 0, 998);
        Check.due(8, x.ending(0, 0), 0);
        x.endAt(0, 0, 999);
        Check.due(8, x.ending(0, 0), 1);
        Check.due(8, x.ending(0, 2), 0);
        x.endAt(0, 3, 10);
        Check.due(8, x.ending(0, 0), 3);
        Check.due(8, x.ofStore(0, 4), 4);
        Check.index(8, x, () -> x.endAt(2, 0, 1000));
        Check.index(8, x, () -> x.endAt(-1, 0, 5));
        Check.index(8, x, () -> x.endAt(0, 40, 0));
        Check.index(8, x, () -> x.endAt(0, -1, 5));
        Check.argument(8, x, () -> x.endAt(0, 0, -1));
        Check.argument(8, x, () -> x.endAt(0, 0, 1000));
        Check.state(8, x, () -> x.endAt(0, 0, 4));
        Check.state(8, x, () -> x.endAt(0, 0, 0));
    }

    private static void endNever() {
        TimeStore x = new TimeStore();
        x.endAt(0, 0, 5);
        x.endAt(0, 1, 5);
        x.endAt(0, 2, 3);
        Check.due(9, x.endNever(0, 0), 5);
        Check.due(9, x.endNever(0, 0), -1);
        Check.due(9, x.endNever(1, 1), -1);
        Check.due(9, x.ofStore(0, 4), 2);
        Check.due(9, x.ending(0, 1), 1);
        Check.due(9, x.tick(0, 9), 2);
        Check.due(9, x.words(0, 0, 5), 0);
        Check.due(9, x.endNever(0, 1), -1);
        Check.index(9, x, () -> x.endNever(2, 0));
        Check.index(9, x, () -> x.endNever(-1, 0));
        Check.index(9, x, () -> x.endNever(0, 40));
        Check.index(9, x, () -> x.endNever(0, -1));
    }

    private static void endingAnswers() {
        TimeStore x = new TimeStore();
        Check.refused(36, x, () -> x.nextEnding(0));
        x.endAt(0, 7, 999);
        x.endAt(0, 39, 30);
        x.endAt(0, 8, 30);
        Check.due(36, x.nextEnding(0), 30);
        Check.due(36, x.nextEnding(1), -9);
        Check.index(36, x, () -> x.nextEnding(2));
        Check.index(36, x, () -> x.nextEnding(-1));
        Check.due(37, x.endingsAt(0, 30), 2);
        Check.due(37, x.endingsAt(0, 999), 1);
        Check.due(37, x.endingsAt(0, 0), 0);
        Check.due(37, x.endingsAt(1, 30), 0);
        Check.refused(37, x, () -> x.endingsAt(0, -1));
        Check.index(37, x, () -> x.endingsAt(2, -1));
        Check.index(37, x, () -> x.endingsAt(-1, 1000));
        Check.argument(37, x, () -> x.endingsAt(0, -2));
        Check.argument(37, x, () -> x.endingsAt(0, 1000));
        Check.due(38, x.ending(0, 0), 39);
        Check.due(38, x.ending(0, 1), 8);
        Check.due(38, x.ending(0, 2), 7);
        Check.index(38, x, () -> x.ending(0, 3));
        Check.index(38, x, () -> x.ending(0, -1));
        Check.index(38, x, () -> x.ending(1, 0));
        Check.index(38, x, () -> x.ending(2, 0));
        Check.index(38, x, () -> x.ending(-1, 0));
        Check.due(39, x.endingOf(0, 39), 30);
        Check.due(39, x.endingOf(0, 7), 999);
        Check.due(39, x.endingOf(0, 0), -1);
        Check.due(39, x.endingOf(1, 7), -1);
        Check.index(39, x, () -> x.endingOf(2, 0));
        Check.index(39, x, () -> x.endingOf(-1, 0));
        Check.index(39, x, () -> x.endingOf(0, 40));
        Check.index(39, x, () -> x.endingOf(0, -1));
        // All 40 keys may have an ending.
        for (int key = 0; key < 40; key++) {
            x.endAt(1, key, 999 - key);
        }
        Check.due(38, x.ending(1, 0), 39);
        Check.index(38, x, () -> x.ending(2, 0));
        Check.index(38, x, () -> x.ending(-1, 0));
        Check.due(38, x.ending(1, 39), 0);
        Check.due(36, x.nextEnding(1), 960);
    }

    private static void watcher() {
        TimeStore x = new TimeStore();
        Check.argument(10, x, () -> x.watcher(-1, 0));
        Check.argument(10, x, () -> x.watcher(4, 0));
        Check.argument(10, x, () -> x.watcher(0, -1));
        Check.argument(10, x, () -> x.watcher(0, 40));
        for (int number = 0; number < 12; number++) {
            Check.due(10, x.watcher(number % 4, number == 11 ? 39 : number), number);
            Check.due(10, x.house(0), number + 1);
            Check.due(10, x.heard(number, 2), 0);
        }
        Check.due(10, x.heard(11, 0), 3);
        Check.due(10, x.heard(11, 1), 39);
        Check.state(10, x, () -> x.watcher(0, 0));
        Check.argument(10, x, () -> x.watcher(4, 0));
    }

    private static void watch() {
        TimeStore x = new TimeStore();
        Check.index(11, x, () -> x.watch(0, 0, 0));
        for (int number = 0; number < 12; number++) {
            x.watcher(0, 0);
        }
        Check.due(11, x.watch(3, 0, 5), true);
        Check.due(11, x.watch(1, 0, 5), true);
        Check.due(11, x.watch(2, 0, 5), true);
        Check.due(11, x.watch(3, 0, 5), false);
        Check.due(11, x.watch(3, 1, 5), true);
        Check.due(40, x.watching(0, 5), 3);
        Check.due(40, x.watching(1, 5), 1);
        Check.due(40, x.watching(0, 39), 0);
        Check.due(41, x.watcherAt(0, 5, 0), 3);
        Check.due(41, x.watcherAt(0, 5, 1), 1);
        Check.due(41, x.watcherAt(0, 5, 2), 2);
        Check.index(11, x, () -> x.watch(12, 0, 0));
        Check.index(11, x, () -> x.watch(-1, 0, 0));
        Check.index(11, x, () -> x.watch(0, 2, 0));
        Check.index(11, x, () -> x.watch(0, -1, 0));
        Check.index(11, x, () -> x.watch(0, 0, 40));
        Check.index(11, x, () -> x.watch(0, 0, -1));
        Check.index(40, x, () -> x.watching(2, 0));
        Check.index(40, x, () -> x.watching(-1, 0));
        Check.index(40, x, () -> x.watching(0, 40));
        Check.index(40, x, () -> x.watching(0, -1));
        Check.index(41, x, () -> x.watcherAt(0, 5, 3));
        Check.index(41, x, () -> x.watcherAt(0, 5, -1));
        Check.index(41, x, () -> x.watcherAt(0, 6, 0));
        Check.index(41, x, () -> x.watcherAt(2, 5, 0));
        Check.index(41, x, () -> x.watcherAt(-1, 5, 0));
        Check.index(41, x, () -> x.watcherAt(0, 40, 0));
        Check.index(41, x, () -> x.watcherAt(0, -1, 0));
        for (int number = 0; number < 12; number++) {
            Check.due(11, x.watch(number, 1, 39), true);
        }
        Check.due(11, x.watching(1, 39), 12);
        Check.due(11, x.watch(7, 1, 39), false);
        Check.due(11, x.watcherAt(1, 39, 11), 11);
    }

    private static void unwatch() {
        TimeStore x = new TimeStore();
        Check.index(12, x, () -> x.unwatch(0, 0, 0));
        for (int number = 0; number < 3; number++) {
            x.watcher(0, 0);
            x.watch(number, 0, 39);
        }
        Check.due(12, x.unwatch(0, 1, 39), false);
        Check.due(12, x.unwatch(0, 0, 39), true);
        Check.due(12, x.unwatch(0, 0, 39), false);
        Check.due(12, x.watcherAt(0, 39, 0), 1);
        Check.due(12, x.watcherAt(0, 39, 1), 2);
        Check.due(12, x.watching(0, 39), 2);
        x.tell(0, 39, 1, 1);
        Check.due(12, x.heard(0, 2), 0);
        Check.due(12, x.heard(1, 2), 1);
        Check.due(12, x.watch(0, 0, 39), true);
        Check.due(12, x.watcherAt(0, 39, 2), 0);
        Check.index(12, x, () -> x.unwatch(3, 0, 0));
        Check.index(12, x, () -> x.unwatch(-1, 0, 0));
        Check.index(12, x, () -> x.unwatch(0, 2, 0));
        Check.index(12, x, () -> x.unwatch(0, -1, 0));
        Check.index(12, x, () -> x.unwatch(0, 0, 40));
        Check.index(12, x, () -> x.unwatch(0, 0, -1));
    }

    private static void kinds() {
        // Kind 0 only counts.
        TimeStore x = new TimeStore();
        x.watcher(0, 5);
        x.watch(0, 0, 0);
        Check.due(2, x.tell(0, 0, 1, 9), 1);
        Check.due(42, x.heard(0, 3), 9);
        // Kind 1 tells its own key in the store where it hears.
        TimeStore y = new TimeStore();
        y.watcher(1, 39);
        y.watch(0, 1, 0);
        y.watch(0, 0, 0);
        Check.due(10, y.tell(1, 0, 7, 8), 2);
        Check.due(10, y.line(1, 39, 0), "7:8");
        Check.due(10, y.line(0, 39, 0), "");
        // Kind 2 tells the same key in the other store, at that store's clock.
        TimeStore z = new TimeStore();
        z.tick(1, 6);
        z.watcher(2, 39);
        z.watch(0, 0, 0);
        Check.due(10, z.end(0, 0, 7), 2);
        Check.due(10, z.line(1, 0, 6), "7:x");
        Check.due(10, z.word(1, 0, 7, 0, 0), 6);
        Check.due(10, z.words(1, 39, 7), 0);
        z.watch(0, 1, 3);
        Check.due(10, z.tell(1, 3, 8, 4), 2);
        Check.due(10, z.line(0, 3, 0), "8:4");
    }

    private static void kindThree() {
        TimeStore x = new TimeStore();
        x.watcher(3, 0);
        x.watcher(3, 39);
        x.watch(0, 0, 0);
        x.watch(0, 1, 1);
        x.watch(1, 0, 2);
        x.end(0, 0, 5);
        Check.due(10, x.endingOf(0, 0), -1);
        x.tell(0, 0, 6, 1);
        Check.due(10, x.endingOf(0, 0), 1);
        x.tell(0, 2, 6, 0);
        Check.due(10, x.endingOf(0, 2), 40);
        x.tell(1, 1, 6, 1);
        Check.due(10, x.endingOf(1, 1), 1);
        Check.due(10, x.endingOf(0, 1), -1);
        x.tick(0, 1);
        x.takeBack(0, 0, 6);
        Check.due(10, x.endingOf(0, 0), -1);
        // At most for minute 999.
        TimeStore y = new TimeStore();
        y.watcher(3, 39);
        y.watcher(3, 0);
        y.watch(0, 0, 0);
        y.watch(1, 0, 1);
        for (int hundreds = 0; hundreds < 9; hundreds++) {
            y.tick(0, 100);
        }
        y.tick(0, 59);
        y.tell(0, 0, 0, 1);
        Check.due(10, y.endingOf(0, 0), 999);
        y.endNever(0, 0);
        y.tick(0, 1);
        y.tell(0, 0, 0, 1);
        Check.due(10, y.endingOf(0, 0), -1);
        y.tick(0, 38);
        y.tell(0, 1, 0, 1);
        Check.due(10, y.endingOf(0, 1), 999);
        y.tick(0, 1);
        y.tell(0, 1, 0, 1);
        Check.due(10, y.endingOf(0, 1), -1);
        // The ending that the key had is told for another minute; it stands last there.
        TimeStore z = new TimeStore();
        z.watcher(3, 4);
        z.watch(0, 0, 0);
        z.endAt(0, 0, 3);
        z.endAt(0, 1, 5);
        z.tell(0, 0, 0, 1);
        Check.due(10, z.ending(0, 0), 1);
        Check.due(10, z.ending(0, 1), 0);
    }

    private static void wantedRow() {
        // Breadth first: what is wanted goes to the row's end.
        TimeStore x = new TimeStore();
        x.watcher(1, 1);
        x.watcher(1, 2);
        x.watcher(1, 3);
        x.watch(0, 0, 0);
        x.watch(1, 0, 0);
        x.watch(2, 0, 1);
        Check.due(2, x.tell(0, 0, 5, 5), 4);
        int[] keys = {0, 1, 2, 3};
        for (int place = 0; place < keys.length; place++) {
            Check.due(2, x.entry(0, place, 1), keys[place]);
        }
        // They hear in the order in which they came, not by number.
        TimeStore y = new TimeStore();
        y.watcher(1, 1);
        y.watcher(1, 2);
        y.watch(1, 0, 0);
        y.watch(0, 0, 0);
        y.tell(0, 0, 5, 5);
        Check.due(2, y.entry(0, 1, 1), 2);
        Check.due(2, y.entry(0, 2, 1), 1);
        // A watcher that wants its own key anew is missed, and the row ends.
        TimeStore z = new TimeStore();
        z.watcher(1, 0);
        z.watch(0, 0, 0);
        Check.due(2, z.tell(0, 0, 5, 5), 1);
        Check.due(2, z.ofStore(0, 5), 1);
        Check.due(2, z.ofStore(1, 5), 0);
    }

    private static void heard() {
        TimeStore x = new TimeStore();
        x.watcher(0, 17);
        x.watch(0, 0, 0);
        x.watch(0, 1, 1);
        x.tell(0, 0, 1, 90);
        x.tell(1, 1, 1, 20);
        x.tell(1, 2, 1, 50);
        x.end(0, 0, 2);
        x.end(0, 0, 3);
        x.end(0, 0, 4);
        x.tick(0, 1);
        x.takeBack(0, 0, 1);
        x.takeBack(0, 0, 2);
        int[] due = {0, 17, 7, 110, 3, 2};
        for (int what = 0; what < due.length; what++) {
            Check.due(42, x.heard(0, what), due[what]);
        }
        Check.index(42, x, () -> x.heard(1, 6));
        Check.index(42, x, () -> x.heard(-1, 0));
        Check.argument(42, x, () -> x.heard(0, -1));
        Check.argument(42, x, () -> x.heard(0, 6));
    }

    /** A long row: 12 watchers hear each of 118 words, told in both stores. */
    private static void manyWanted() {
        TimeStore x = new TimeStore();
        for (int period = 0; period < 60; period++) {
            x.tell(0, 0, period, 1);
            x.tell(1, 0, period, 1);
        }
        x.tick(0, 1);
        x.tick(1, 1);
        for (int number = 0; number < 12; number++) {
            x.watcher(number < 6 ? 2 : 1, 0);
            x.watch(number, 0, 0);
            x.watch(number, 1, 0);
        }
        // A value and 58 times BACK in store 0, and the same in store 1; all else that is wanted is missed.
        Check.due(3, x.tellSpan(0, 0, 0, 59, 2), 118);
        Check.due(3, x.ofStore(0, 3), 119);
        Check.due(3, x.ofStore(1, 3), 119);
        int[] heard = {1, 0, 118, 4, 0, 116};
        for (int what = 0; what < heard.length; what++) {
            Check.due(42, x.heard(11, what), heard[what]);
        }
        Check.due(56, x.ofStore(0, 5) + x.ofStore(1, 5), 118 * 12 - 59);
        Check.due(60, x.isSound(), true);
    }
}
