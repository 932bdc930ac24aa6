/** Promises 25 to 35 and 48 to 50: what is read, by the words, by the line, and by the journal. */
final class ReadTest {
    public static void main(String[] args) {
        read();
        readNow();
        spotOf();
        bound();
        line();
        lasts();
        differ();
        changes();
        firstKnown();
        words();
        journal();
        rebuiltRead();
        knownThrows();
        Check.finish();
    }

    /** Key 5 of store 0: at 0 told 10:1 20:2, at 4 20 ended and 30:3, at 8 20 taken back; the clock is 9. */
    private static TimeStore told() {
        TimeStore x = new TimeStore();
        x.tell(0, 5, 10, 1);
        x.tell(0, 5, 20, 2);
        x.tick(0, 4);
        x.end(0, 5, 20);
        x.tell(0, 5, 30, 3);
        x.tick(0, 4);
        x.takeBack(0, 5, 20);
        x.tick(0, 1);
        return x;
    }

    private static void read() {
        TimeStore x = told();
        Check.due(25, x.read(0, 5, 9, 9), -1);
        Check.due(25, x.read(0, 5, 10, 9), 1);
        Check.due(25, x.read(0, 5, 20, 3), 2);
        Check.due(25, x.read(0, 5, 20, 4), -1);
        Check.due(25, x.read(0, 5, 29, 7), -1);
        Check.due(25, x.read(0, 5, 29, 8), 1);
        Check.due(25, x.read(0, 5, 30, 3), 2);
        Check.due(25, x.read(0, 5, 30, 4), 3);
        Check.due(25, x.read(0, 5, 999, 0), 2);
        Check.due(25, x.read(0, 4, 999, 9), -1);
        Check.due(25, x.read(0, 6, 999, 9), -1);
        Check.due(25, x.read(1, 5, 999, 0), -1);
    }

    private static void readNow() {
        TimeStore x = told();
        Check.due(26, x.readNow(0, 5), -1);
        x.tick(0, 1);
        Check.due(26, x.readNow(0, 5), 1);
        x.tick(0, 19);
        Check.due(26, x.readNow(0, 5), 1);
        x.tick(0, 1);
        Check.due(26, x.readNow(0, 5), 3);
        x.tell(0, 5, 31, 9);
        Check.due(26, x.readNow(0, 5), 3);
        x.tell(0, 5, 30, 8);
        Check.due(26, x.readNow(0, 5), 8);
        Check.due(26, x.readNow(1, 5), -1);
        Check.index(26, x, () -> x.readNow(2, 0));
        Check.index(26, x, () -> x.readNow(-1, 0));
        Check.index(26, x, () -> x.readNow(0, 40));
        Check.index(26, x, () -> x.readNow(0, -1));
    }

    private static void spotOf() {
        TimeStore x = told();
        int[][] due = {
            // minute, known, the spot, when it was told, the next period
            {9, 9, -1, -1, 10}, {10, 9, 10, 0, 30}, {25, 3, 20, 0, 1000}, {25, 4, 20, 4, 30},
            {25, 8, 10, 0, 30}, {30, 9, 30, 4, 1000}, {999, 9, 30, 4, 1000}, {0, 0, -1, -1, 10},
            {29, 9, 10, 0, 30}, {10, 3, 10, 0, 20}, {20, 3, 20, 0, 1000},
        };
        for (int[] row : due) {
            for (int what = 0; what <= 2; what++) {
                Check.due(27, x.spotOf(0, 5, row[0], row[1], what), row[2 + what]);
            }
        }
        Check.due(27, x.spotOf(1, 5, 999, 0, 2), 1000);
        Check.argument(27, x, () -> x.spotOf(0, 5, 0, 10, -1));
        Check.argument(27, x, () -> x.spotOf(0, 5, 0, 10, 3));
        x.tell(0, 5, 999, 1);
        x.tell(0, 5, 0, 1);
        Check.due(27, x.spotOf(0, 5, 998, 9, 2), 999);
        Check.due(27, x.spotOf(0, 5, 999, 9, 0), 999);
        Check.due(27, x.spotOf(0, 5, 999, 9, 2), 1000);
        Check.due(27, x.spotOf(0, 5, 0, 9, 0), 0);
    }

    private static void bound() {
        TimeStore x = told();
        Check.due(28, x.bound(0, 5, 9, false), 10);
        Check.due(28, x.bound(0, 5, 9, true), 30);
        Check.due(28, x.bound(0, 5, 3, true), 20);
        Check.refused(28, x, () -> x.bound(0, 4, 9, true));
        Check.refused(28, x, () -> x.bound(1, 5, 0, false));
        x.takeBack(0, 5, 10);
        Check.due(28, x.bound(0, 5, 9, false), 30);
        x.takeBack(0, 5, 30);
        Check.refused(28, x, () -> x.bound(0, 5, 9, false));
        Check.refused(28, x, () -> x.bound(0, 5, 9, true));
        x.end(0, 6, 999);
        x.end(0, 6, 0);
        Check.due(28, x.bound(0, 6, 9, false), 0);
        Check.due(28, x.bound(0, 6, 9, true), 999);
    }

    private static void line() {
        TimeStore x = told();
        Check.due(29, x.line(0, 5, 0), "10:1 20:2");
        Check.due(29, x.line(0, 5, 4), "10:1 20:x 30:3");
        Check.due(29, x.line(0, 5, 8), "10:1 30:3");
        Check.due(29, x.line(0, 4, 9), "");
        Check.due(29, x.line(1, 5, 0), "");
        x.tell(0, 39, 999, 99);
        x.end(0, 39, 0);
        Check.due(29, x.line(0, 39, 9), "0:x 999:99");
        Check.due(29, x.line(0, 39, 8), "");
        x.takeBack(0, 5, 10);
        x.takeBack(0, 5, 30);
        Check.due(29, x.line(0, 5, 9), "");
    }

    private static void lasts() {
        TimeStore x = told();
        Check.due(30, x.lasts(0, 5, 0, 1), 10);
        Check.due(30, x.lasts(0, 5, 0, 2), 980);
        Check.due(30, x.lasts(0, 5, 0, -1), 10);
        Check.due(30, x.lasts(0, 5, 4, -1), 20);
        Check.due(30, x.lasts(0, 5, 4, 3), 970);
        Check.due(30, x.lasts(0, 5, 9, 1), 20);
        Check.due(30, x.lasts(0, 5, 9, 99), 0);
        Check.due(30, x.lasts(0, 0, 9, -1), 1000);
        // One value at two places; the first and the last minute.
        x.tell(0, 5, 40, 1);
        Check.due(30, x.lasts(0, 5, 9, 1), 980);
        x.tell(0, 6, 0, 99);
        x.tell(0, 6, 999, 0);
        Check.due(30, x.lasts(0, 6, 9, 99), 999);
        Check.due(30, x.lasts(0, 6, 9, 0), 1);
        Check.due(30, x.lasts(0, 6, 9, -1), 0);
        Check.argument(30, x, () -> x.lasts(0, 5, 10, -2));
        Check.argument(30, x, () -> x.lasts(0, 5, 0, 100));
    }

    private static void differ() {
        TimeStore x = told();
        Check.due(31, x.differ(0, 5, 0, 0), 0);
        Check.due(31, x.differ(0, 5, 0, 3), 0);
        // 20 to 29 from 2 to NONE, 30 to 999 from 2 to 3.
        Check.due(31, x.differ(0, 5, 0, 4), 980);
        Check.due(31, x.differ(0, 5, 4, 0), 980);
        Check.due(31, x.differ(0, 5, 4, 8), 10);
        Check.due(31, x.differ(0, 5, 8, 9), 0);
        Check.due(31, x.differ(0, 0, 0, 9), 0);
        // Other words, the same answers: ENDED where nothing was.
        x.end(0, 6, 50);
        Check.due(31, x.differ(0, 6, 0, 9), 0);
        x.tell(0, 7, 0, 1);
        Check.due(31, x.differ(0, 7, 8, 9), 1000);
        Check.due(31, x.differ(0, 6, 0, 9), 0);
        x.tell(0, 8, 999, 1);
        Check.due(31, x.differ(0, 8, 9, 8), 1);
        Check.state(31, x, () -> x.differ(0, 5, 9, 10));
        Check.state(31, x, () -> x.differ(0, 5, 10, 9));
        Check.argument(31, x, () -> x.differ(0, 5, 10, 1000));
        Check.argument(31, x, () -> x.differ(0, 5, 10, -1));
        x.forget(0, 4);
        Check.state(31, x, () -> x.differ(0, 5, 3, 9));
        Check.state(31, x, () -> x.differ(0, 5, 9, 3));
        Check.due(31, x.differ(0, 5, 4, 8), 10);
    }

    private static void changes() {
        TimeStore x = told();
        Check.due(32, x.changes(0, 5, 25), 2);
        Check.due(32, x.changes(0, 5, 35), 1);
        Check.due(32, x.changes(0, 5, 15), 0);
        Check.due(32, x.changes(0, 5, 0), 0);
        Check.due(32, x.changes(0, 6, 0), 0);
        // At the clock counts, at the horizon does not.
        x.tell(0, 5, 10, 9);
        Check.due(32, x.changes(0, 5, 15), 1);
        Check.due(32, x.changes(0, 5, 25), 3);
        x.tick(0, 1);
        x.tell(0, 5, 10, 9);
        Check.due(32, x.changes(0, 5, 15), 1);
        x.forget(0, 3);
        Check.due(32, x.changes(0, 5, 25), 3);
        x.forget(0, 4);
        Check.due(32, x.changes(0, 5, 25), 2);
        x.forget(0, 9);
        Check.due(32, x.changes(0, 5, 25), 0);
        Check.index(32, x, () -> x.changes(2, 0, 1000));
        Check.index(32, x, () -> x.changes(-1, 0, 0));
        Check.index(32, x, () -> x.changes(0, 40, -1));
        Check.index(32, x, () -> x.changes(0, -1, 0));
        Check.argument(32, x, () -> x.changes(0, 0, -1));
        Check.argument(32, x, () -> x.changes(0, 0, 1000));
    }

    private static void firstKnown() {
        TimeStore x = told();
        Check.due(33, x.firstKnown(0, 5, 25, 2), 0);
        Check.due(33, x.firstKnown(0, 5, 25, -1), 4);
        Check.due(33, x.firstKnown(0, 5, 25, 1), 8);
        Check.due(33, x.firstKnown(0, 5, 25, 3), -1);
        Check.due(33, x.firstKnown(0, 5, 30, 3), 4);
        Check.due(33, x.firstKnown(0, 0, 0, -1), 0);
        Check.due(33, x.firstKnown(0, 0, 0, 0), -1);
        x.tell(0, 5, 25, 99);
        Check.due(33, x.firstKnown(0, 5, 25, 99), 9);
        Check.due(33, x.firstKnown(0, 5, 999, 99), -1);
        // From the horizon on, though what is known there was told ahead of it.
        x.forget(0, 6);
        Check.due(33, x.firstKnown(0, 5, 25, -1), 6);
        Check.due(33, x.firstKnown(0, 5, 30, 3), 6);
        Check.due(33, x.firstKnown(0, 5, 25, 2), -1);
        Check.due(33, x.firstKnown(0, 5, 25, 1), 8);
        Check.index(33, x, () -> x.firstKnown(2, 0, 0, 100));
        Check.index(33, x, () -> x.firstKnown(-1, 0, 0, 0));
        Check.index(33, x, () -> x.firstKnown(0, 40, 1000, 0));
        Check.index(33, x, () -> x.firstKnown(0, -1, 0, 0));
        Check.argument(33, x, () -> x.firstKnown(0, 0, -1, 0));
        Check.argument(33, x, () -> x.firstKnown(0, 0, 1000, 0));
        Check.argument(33, x, () -> x.firstKnown(0, 0, 0, -2));
        Check.argument(33, x, () -> x.firstKnown(0, 0, 0, 100));
    }

    private static void words() {
        TimeStore x = told();
        Check.due(34, x.words(0, 5, 20), 3);
        Check.due(34, x.words(0, 5, 10), 1);
        Check.due(34, x.words(0, 5, 11), 0);
        Check.due(34, x.words(0, 4, 20), 0);
        Check.due(34, x.words(1, 5, 20), 0);
        Check.index(34, x, () -> x.words(2, 5, 1000));
        Check.index(34, x, () -> x.words(-1, 5, 20));
        Check.index(34, x, () -> x.words(0, 40, 20));
        Check.index(34, x, () -> x.words(0, -1, -1));
        Check.argument(34, x, () -> x.words(0, 5, -1));
        Check.argument(34, x, () -> x.words(0, 5, 1000));
        int[][] due = {{0, 2}, {4, -1}, {8, -2}};
        for (int place = 0; place < 3; place++) {
            Check.due(35, x.word(0, 5, 20, place, 0), due[place][0]);
            Check.due(35, x.word(0, 5, 20, place, 1), due[place][1]);
        }
        Check.index(35, x, () -> x.word(0, 5, 20, 3, 2));
        Check.index(35, x, () -> x.word(0, 5, 20, -1, 0));
        Check.index(35, x, () -> x.word(0, 5, 11, 0, 0));
        Check.index(35, x, () -> x.word(0, 5, -1, 0, 0));
        Check.index(35, x, () -> x.word(0, 5, 1000, 0, 0));
        Check.index(35, x, () -> x.word(0, 5, 1044, 0, 0));
        Check.index(35, x, () -> x.word(2, 5, 20, 0, 0));
        Check.index(35, x, () -> x.word(-1, 5, 20, 0, 0));
        Check.index(35, x, () -> x.word(0, 40, 20, 0, 0));
        Check.index(35, x, () -> x.word(0, -1, 20, 0, 0));
        Check.argument(35, x, () -> x.word(0, 5, 20, 0, -1));
        Check.argument(35, x, () -> x.word(0, 5, 20, 0, 2));
        x.tell(0, 5, 19, 7);
        x.tell(0, 5, 21, 8);
        x.tell(0, 5, 0, 6);
        x.tell(1, 5, 20, 9);
        Check.due(34, x.words(0, 5, 20), 3);
        Check.due(34, x.words(0, 5, 19), 1);
        Check.due(35, x.word(0, 5, 19, 0, 1), 7);
        Check.due(35, x.word(0, 5, 0, 0, 1), 6);
        Check.index(35, x, () -> x.word(0, 5, 19, 1, 1));
        Check.index(35, x, () -> x.word(2, 5, 20, 0, 0));
        Check.index(49, x, () -> x.entry(2, 0, 0));
        Check.index(49, x, () -> x.entry(-1, 0, 0));
        x.forget(0, 4);
        Check.due(34, x.words(0, 5, 20), 2);
        Check.due(35, x.word(0, 5, 20, 0, 0), 4);
    }

    private static void journal() {
        TimeStore x = told();
        Check.due(48, x.journal(0, 0), 2);
        Check.due(48, x.journal(0, 3), 2);
        Check.due(48, x.journal(0, 4), 4);
        Check.due(48, x.journal(0, 8), 5);
        Check.due(48, x.journal(0, 999), 5);
        Check.due(48, x.journal(1, 999), 0);
        Check.index(48, x, () -> x.journal(2, 1000));
        Check.index(48, x, () -> x.journal(-1, 0));
        Check.argument(48, x, () -> x.journal(0, -1));
        Check.argument(48, x, () -> x.journal(0, 1000));
        x.tell(0, 39, 999, 99);
        x.tell(0, 2, 998, 98);
        int[][] due = {{0, 5, 10, 1}, {0, 5, 20, 2}, {4, 5, 20, -1}, {4, 5, 30, 3}, {8, 5, 20, -2},
            {9, 39, 999, 99}, {9, 2, 998, 98}};
        for (int place = 0; place < due.length; place++) {
            for (int what = 0; what < 4; what++) {
                Check.due(49, x.entry(0, place, what), due[place][what]);
            }
        }
        Check.index(49, x, () -> x.entry(0, 7, 4));
        Check.index(49, x, () -> x.entry(0, -1, 0));
        Check.index(49, x, () -> x.entry(1, 0, 0));
        Check.index(49, x, () -> x.entry(2, 0, 0));
        Check.index(49, x, () -> x.entry(-1, 0, 0));
        Check.argument(49, x, () -> x.entry(0, 0, -1));
        Check.argument(49, x, () -> x.entry(0, 0, 4));
        // The journal keeps its order when words have left it.
        Check.due(21, x.forget(0, 8), 2);
        int[][] left = {due[0], due[3], due[4], due[5], due[6]};
        for (int place = 0; place < left.length; place++) {
            for (int what = 0; what < 4; what++) {
                Check.due(49, x.entry(0, place, what), left[place][what]);
            }
        }
        Check.due(48, x.journal(0, 4), 2);
        Check.index(49, x, () -> x.entry(0, 5, 0));
    }

    private static void rebuiltRead() {
        for (int minute = 0; minute < 40; minute++) {
            TimeStore told = told();
            for (int known = 0; known < 10; known++) {
                Check.due(50, told.rebuiltRead(0, 5, minute, known), told.read(0, 5, minute, known));
            }
        }
        TimeStore x = told();
        Check.due(50, x.rebuiltRead(0, 5, 25, 3), 2);
        Check.due(50, x.rebuiltRead(0, 5, 25, 4), -1);
        Check.due(50, x.rebuiltRead(0, 5, 25, 8), 1);
        Check.due(50, x.rebuiltRead(0, 5, 999, 9), 3);
        Check.due(50, x.rebuiltRead(1, 5, 999, 0), -1);
    }

    interface Known {
        void ask(int store, int key, int minute, int known);
    }

    /** What the questions that are asked of a known minute throw. */
    private static void knownThrows() {
        TimeStore x = told();
        x.forget(0, 4);
        asked(25, x, (s, k, m, u) -> x.read(s, k, m, u), true);
        asked(27, x, (s, k, m, u) -> x.spotOf(s, k, m, u, 0), true);
        asked(28, x, (s, k, m, u) -> x.bound(s, k, u, false), false);
        asked(29, x, (s, k, m, u) -> x.line(s, k, u), false);
        asked(30, x, (s, k, m, u) -> x.lasts(s, k, u, -1), false);
        asked(31, x, (s, k, m, u) -> x.differ(s, k, u, 9), false);
        asked(31, x, (s, k, m, u) -> x.differ(s, k, 9, u), false);
        asked(50, x, (s, k, m, u) -> x.rebuiltRead(s, k, m, u), true);
    }

    private static void asked(int promise, TimeStore x, Known call, boolean hasMinute) {
        Check.index(promise, x, () -> call.ask(2, 0, -1, 1000));
        Check.index(promise, x, () -> call.ask(-1, 0, 0, 0));
        Check.index(promise, x, () -> call.ask(0, 40, 1000, -1));
        Check.index(promise, x, () -> call.ask(0, -1, 0, 0));
        Check.argument(promise, x, () -> call.ask(0, 0, 0, -1));
        Check.argument(promise, x, () -> call.ask(0, 0, 0, 1000));
        Check.state(promise, x, () -> call.ask(0, 0, 0, 3));
        Check.state(promise, x, () -> call.ask(0, 0, 0, 10));
        Check.state(promise, x, () -> call.ask(0, 0, 0, 999));
        Check.state(promise, x, () -> call.ask(0, 0, 999, 0));
        if (hasMinute) {
            Check.argument(promise, x, () -> call.ask(0, 0, -1, 0));
            Check.argument(promise, x, () -> call.ask(0, 0, 1000, 999));
        }
        // The horizon and the clock are known themselves.
        call.ask(0, 0, 0, 4);
        call.ask(0, 0, 999, 9);
    }
}
