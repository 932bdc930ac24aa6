/** Promises 13 to 20 and 43 to 47: windows and snapshots. */
final class WindowSnapTest {
    public static void main(String[] args) {
        window();
        windowThrows();
        narrow();
        trim();
        shut();
        ofWindow();
        windowRead();
        snap();
        snapMark();
        drop();
        snapRead();
        ofSnap();
        snapDiffer();
        Check.finish();
    }

    private static void window() {
        TimeStore x = new TimeStore();
        x.tell(0, 0, 10, 1);
        x.tell(1, 39, 10, 1);
        Check.due(13, x.window(0, 0, 0, 999), 0);
        Check.due(13, x.window(0, 0, 5, 5), 1);
        Check.due(13, x.window(1, 39, 999, 999), 2);
        Check.refused(13, x, () -> x.window(0, 0, 6, 5));
        Check.refused(13, x, () -> x.window(0, 0, 999, 0));
        Check.due(13, x.house(1), 3);
        x.tick(0, 1);
        x.takeBack(0, 0, 10);
        // Words about the key lie there, though nothing stands.
        Check.due(13, x.window(0, 0, 0, 0), 3);
    }

    private static void windowThrows() {
        TimeStore x = new TimeStore();
        x.tell(0, 0, 10, 1);
        x.tell(0, 2, 10, 1);
        Check.index(13, x, () -> x.window(2, 0, -1, 0));
        Check.index(13, x, () -> x.window(-1, 0, 0, 0));
        Check.index(13, x, () -> x.window(0, 40, 0, 1000));
        Check.index(13, x, () -> x.window(0, -1, 0, 0));
        Check.argument(13, x, () -> x.window(0, 1, -1, 0));
        Check.argument(13, x, () -> x.window(0, 0, 1000, 0));
        Check.argument(13, x, () -> x.window(0, 0, 0, -1));
        Check.argument(13, x, () -> x.window(0, 0, 0, 1000));
        Check.state(13, x, () -> x.window(0, 1, 0, 5));
        Check.state(13, x, () -> x.window(1, 0, 0, 5));
        // An exception goes ahead of REFUSED.
        Check.state(13, x, () -> x.window(0, 1, 5, 0));
        for (int number = 0; number < 6; number++) {
            Check.due(13, x.window(0, 0, number, 9), number);
        }
        Check.state(13, x, () -> x.window(0, 0, 0, 5));
        Check.state(13, x, () -> x.window(0, 0, 5, 0));
        Check.argument(13, x, () -> x.window(0, 0, 0, 1000));
    }

    private static TimeStore three() {
        TimeStore x = new TimeStore();
        x.tell(0, 3, 10, 1);
        x.tell(0, 3, 20, 2);
        x.tell(0, 3, 30, 3);
        x.tell(0, 4, 25, 4);
        return x;
    }

    private static void narrow() {
        TimeStore x = three();
        Check.index(14, x, () -> x.narrow(0, 0, 1));
        x.window(0, 3, 5, 35);
        Check.due(14, x.narrow(0, 5, 35), 3);
        Check.due(14, x.narrow(0, 10, 30), 3);
        Check.due(14, x.narrow(0, 11, 30), 2);
        Check.refused(14, x, () -> x.narrow(0, 10, 30));
        Check.refused(14, x, () -> x.narrow(0, 11, 31));
        Check.refused(14, x, () -> x.narrow(0, 31, 31));
        Check.refused(14, x, () -> x.narrow(0, 10, 10));
        Check.refused(14, x, () -> x.narrow(0, 20, 19));
        Check.due(14, x.ofWindow(0, 2), 11);
        Check.due(14, x.ofWindow(0, 3), 30);
        Check.due(14, x.narrow(0, 21, 29), 0);
        Check.due(14, x.narrow(0, 29, 29), 0);
        Check.index(14, x, () -> x.narrow(1, -1, 0));
        Check.index(14, x, () -> x.narrow(-1, 0, 0));
        Check.argument(14, x, () -> x.narrow(0, -1, 29));
        Check.argument(14, x, () -> x.narrow(0, 1000, 29));
        Check.argument(14, x, () -> x.narrow(0, 29, -1));
        Check.argument(14, x, () -> x.narrow(0, 29, 1000));
    }

    private static void trim() {
        TimeStore x = three();
        Check.index(15, x, () -> x.trim(0, 0));
        x.window(0, 3, 5, 30);
        Check.refused(15, x, () -> x.trim(0, 4));
        Check.refused(15, x, () -> x.trim(0, 31));
        Check.due(15, x.trim(0, 5), 3);
        Check.due(15, x.trim(0, 20), 2);
        Check.due(15, x.ofWindow(0, 2), 20);
        Check.due(15, x.ofWindow(0, 3), 30);
        Check.refused(15, x, () -> x.trim(0, 19));
        Check.due(15, x.trim(0, 30), 1);
        Check.due(15, x.ofWindow(0, 3), 30);
        Check.index(15, x, () -> x.trim(1, 1000));
        Check.index(15, x, () -> x.trim(-1, 0));
        Check.argument(15, x, () -> x.trim(0, -1));
        Check.argument(15, x, () -> x.trim(0, 1000));
    }

    private static void shut() {
        TimeStore x = three();
        Check.index(16, x, () -> x.shut(0));
        for (int number = 0; number < 4; number++) {
            x.window(0, 3, number, 50 + number);
        }
        Check.index(16, x, () -> x.shut(4));
        Check.index(16, x, () -> x.shut(-1));
        Check.due(16, x.shut(1), 3);
        Check.due(16, x.ofWindow(0, 2), 0);
        Check.due(16, x.ofWindow(1, 2), 2);
        Check.due(16, x.ofWindow(2, 2), 3);
        Check.due(16, x.ofWindow(2, 3), 53);
        Check.index(16, x, () -> x.ofWindow(3, 2));
        Check.due(16, x.shut(2), 2);
        Check.due(16, x.shut(0), 1);
        Check.due(16, x.ofWindow(0, 2), 2);
        Check.due(16, x.window(0, 4, 8, 9), 1);
        Check.due(16, x.ofWindow(1, 1), 4);
        Check.due(16, x.ofWindow(0, 1), 3);
        Check.due(16, x.shut(0), 1);
        Check.due(16, x.shut(0), 0);
        Check.due(16, x.house(1), 0);
    }

    private static void ofWindow() {
        TimeStore x = three();
        x.window(0, 3, 10, 29);
        x.tell(1, 39, 5, 1);
        x.window(1, 39, 0, 4);
        int[] due = {0, 3, 10, 29, 2, 10, 20};
        int[] others = {1, 39, 0, 4, 0, -9, -9};
        for (int what = 0; what < due.length; what++) {
            Check.due(43, x.ofWindow(0, what), due[what]);
            Check.due(43, x.ofWindow(1, what), others[what]);
        }
        x.tick(0, 1);
        // Periods taken back are had, too; a period told anew is one.
        x.takeBack(0, 3, 20);
        x.tell(0, 3, 10, 5);
        x.end(0, 3, 29);
        Check.due(43, x.ofWindow(0, 4), 3);
        Check.due(43, x.ofWindow(0, 6), 29);
        // What is there now: a window opened ahead of its words has them.
        x.tell(1, 39, 3, 1);
        Check.due(43, x.ofWindow(1, 4), 1);
        Check.due(43, x.ofWindow(1, 5), 3);
        Check.due(43, x.ofWindow(1, 6), 3);
        Check.index(43, x, () -> x.ofWindow(2, 7));
        Check.index(43, x, () -> x.ofWindow(-1, 0));
        Check.argument(43, x, () -> x.ofWindow(0, -1));
        Check.argument(43, x, () -> x.ofWindow(0, 7));
    }

    private static void windowRead() {
        TimeStore x = three();
        x.window(0, 3, 15, 25);
        Check.due(44, x.windowRead(0, 14, 0), -1);
        Check.due(44, x.windowRead(0, 19, 0), -1);
        Check.due(44, x.windowRead(0, 20, 0), 2);
        Check.due(44, x.windowRead(0, 25, 0), 2);
        Check.due(44, x.windowRead(0, 30, 0), 2);
        Check.due(44, x.windowRead(0, 999, 0), 2);
        Check.due(44, x.windowRead(0, 0, 0), -1);
        x.tick(0, 2);
        x.end(0, 3, 22);
        x.takeBack(0, 3, 20);
        Check.due(44, x.windowRead(0, 21, 1), 2);
        Check.due(44, x.windowRead(0, 21, 2), -1);
        Check.due(44, x.windowRead(0, 999, 2), -1);
        x.window(0, 3, 15, 30);
        x.window(0, 3, 10, 10);
        Check.due(44, x.windowRead(2, 9, 2), -1);
        Check.due(44, x.windowRead(2, 10, 2), 1);
        Check.due(44, x.windowRead(2, 999, 2), 1);
        Check.due(44, x.windowRead(1, 30, 2), 3);
        Check.due(44, x.windowRead(1, 29, 2), -1);
        x.forget(0, 1);
        Check.index(44, x, () -> x.windowRead(3, -1, 0));
        Check.index(44, x, () -> x.windowRead(-1, 0, 0));
        Check.argument(44, x, () -> x.windowRead(0, -1, 1));
        Check.argument(44, x, () -> x.windowRead(0, 1000, 0));
        Check.argument(44, x, () -> x.windowRead(0, 0, -1));
        Check.argument(44, x, () -> x.windowRead(0, 0, 1000));
        Check.state(44, x, () -> x.windowRead(0, 0, 0));
        Check.state(44, x, () -> x.windowRead(0, 0, 3));
        Check.due(44, x.windowRead(0, 20, 1), 2);
    }

    private static void snap() {
        TimeStore x = three();
        x.tick(0, 3);
        x.forget(0, 1);
        Check.index(17, x, () -> x.snap(2, 0));
        Check.index(17, x, () -> x.snap(-1, 1000));
        Check.argument(17, x, () -> x.snap(0, -1));
        Check.argument(17, x, () -> x.snap(0, 1000));
        Check.state(17, x, () -> x.snap(0, 0));
        Check.state(17, x, () -> x.snap(0, 4));
        Check.state(17, x, () -> x.snap(1, 1));
        Check.due(17, x.snap(0, 1), 0);
        Check.due(17, x.snap(0, 3), 1);
        Check.due(17, x.snap(1, 0), 2);
        for (int number = 3; number < 6; number++) {
            Check.due(17, x.snap(0, 2), number);
        }
        Check.due(17, x.house(2), 6);
        Check.state(17, x, () -> x.snap(0, 2));
        Check.argument(17, x, () -> x.snap(0, 1000));
        // It never changes.
        x.takeBack(0, 3, 20);
        Check.due(17, x.snapRead(1, 3, 25), 2);
        Check.due(17, x.ofSnap(1, 4), 4);
    }

    private static void snapMark() {
        TimeStore x = three();
        x.end(0, 0, 7);
        x.snap(0, 0);
        x.snap(1, 0);
        Check.due(19, x.rewind(0), 0);
        int[][] entries = {{0, 7, -1}, {3, 10, 1}, {3, 20, 2}, {3, 30, 3}, {4, 25, 4}};
        for (int what = 5; what <= 7; what++) {
            Check.due(46, x.ofSnap(0, what), -1);
        }
        for (int[] entry : entries) {
            Check.due(18, x.snapNext(0), entry[0]);
            Check.due(46, x.ofSnap(0, 5), entry[0]);
            Check.due(46, x.ofSnap(0, 6), entry[1]);
            Check.due(46, x.ofSnap(0, 7), entry[2]);
        }
        Check.refused(18, x, () -> x.snapNext(0));
        Check.refused(18, x, () -> x.snapNext(1));
        Check.due(18, x.ofSnap(0, 6), 25);
        Check.due(19, x.rewind(1), 0);
        Check.due(19, x.rewind(0), 5);
        Check.due(19, x.ofSnap(0, 6), -1);
        Check.due(19, x.rewind(0), 0);
        Check.due(19, x.snapNext(0), 0);
        Check.due(19, x.snapNext(0), 3);
        Check.due(19, x.rewind(0), 2);
        for (int snap : new int[] {-1, 2, Integer.MAX_VALUE}) {
            Check.index(18, x, () -> x.snapNext(snap));
            Check.index(19, x, () -> x.rewind(snap));
            Check.index(20, x, () -> x.drop(snap));
        }
    }

    private static void drop() {
        TimeStore x = three();
        Check.index(20, x, () -> x.drop(0));
        x.tick(0, 9);
        for (int known = 0; known < 4; known++) {
            x.snap(0, known);
        }
        x.snapNext(2);
        x.snapNext(2);
        Check.due(20, x.drop(1), 3);
        Check.due(20, x.ofSnap(0, 1), 0);
        Check.due(20, x.ofSnap(1, 1), 2);
        Check.due(20, x.ofSnap(1, 6), 20);
        Check.due(20, x.ofSnap(2, 1), 3);
        Check.index(20, x, () -> x.ofSnap(3, 1));
        // A new one is ahead of its first entry, whatever stood at its number before.
        Check.due(20, x.drop(1), 2);
        x.takeBack(0, 3, 10);
        Check.due(20, x.snap(0, 9), 2);
        Check.due(20, x.ofSnap(2, 6), -1);
        Check.due(20, x.ofSnap(2, 4), 3);
        Check.due(20, x.ofSnap(1, 4), 4);
        Check.due(20, x.drop(2), 2);
        Check.due(20, x.drop(0), 1);
        Check.due(20, x.drop(0), 0);
        Check.due(20, x.house(2), 0);
    }

    private static void snapRead() {
        TimeStore x = three();
        x.end(0, 3, 40);
        x.snap(0, 0);
        Check.due(45, x.snapRead(0, 3, 9), -1);
        Check.due(45, x.snapRead(0, 3, 10), 1);
        Check.due(45, x.snapRead(0, 3, 39), 3);
        Check.due(45, x.snapRead(0, 3, 40), -1);
        Check.due(45, x.snapRead(0, 4, 999), 4);
        Check.due(45, x.snapRead(0, 0, 999), -1);
        Check.due(45, x.snapRead(0, 39, 0), -1);
        Check.index(45, x, () -> x.snapRead(1, 0, -1));
        Check.index(45, x, () -> x.snapRead(-1, 0, 0));
        Check.index(45, x, () -> x.snapRead(0, 40, 1000));
        Check.index(45, x, () -> x.snapRead(0, -1, 0));
        Check.argument(45, x, () -> x.snapRead(0, 0, -1));
        Check.argument(45, x, () -> x.snapRead(0, 0, 1000));
    }

    private static void ofSnap() {
        TimeStore x = three();
        x.tick(0, 2);
        x.takeBack(0, 4, 25);
        x.snap(0, 1);
        x.snap(0, 2);
        x.snap(1, 0);
        int[] settled = {0, 1, 1, 2, 4, -1, -1, -1};
        int[] now = {0, 2, 0, 1, 3, -1, -1, -1};
        int[] empty = {1, 0, 0, 0, 0, -1, -1, -1};
        for (int what = 0; what < 8; what++) {
            Check.due(46, x.ofSnap(0, what), settled[what]);
            Check.due(46, x.ofSnap(1, what), now[what]);
            Check.due(46, x.ofSnap(2, what), empty[what]);
        }
        x.tick(0, 5);
        Check.due(46, x.ofSnap(1, 2), 0);
        Check.index(46, x, () -> x.ofSnap(3, 8));
        Check.index(46, x, () -> x.ofSnap(-1, 0));
        Check.argument(46, x, () -> x.ofSnap(0, -1));
        Check.argument(46, x, () -> x.ofSnap(0, 8));
    }

    private static void snapDiffer() {
        TimeStore x = three();
        x.tell(1, 3, 10, 1);
        x.tell(1, 3, 20, 9);
        x.end(1, 5, 1);
        x.snap(0, 0);
        x.snap(1, 0);
        // Unlike is period 20; in one of both alone are 30 and 25 on the one side, key 5 on the other.
        Check.due(47, x.snapDiffer(0, 1), 4);
        Check.due(47, x.snapDiffer(1, 0), 4);
        Check.due(47, x.snapDiffer(0, 0), 0);
        x.tick(0, 1);
        x.tell(0, 3, 10, 1);
        x.snap(0, 1);
        // Told anew with the same value: the entries are alike.
        Check.due(47, x.snapDiffer(0, 2), 0);
        Check.index(47, x, () -> x.snapDiffer(0, 3));
        Check.index(47, x, () -> x.snapDiffer(3, 0));
        Check.index(47, x, () -> x.snapDiffer(-1, 0));
        Check.index(47, x, () -> x.snapDiffer(0, -1));
    }
}
