/** Promises 21 to 24 and 51 to 61: forgetting, the book, joining, and what is told of all. */
final class BookTest {
    public static void main(String[] args) {
        forget();
        forgetThrows();
        gather();
        emptyBook();
        knock();
        bookAnswers();
        ofBook();
        joinedRead();
        joinedWords();
        ofStore();
        house();
        wouldSpan();
        wouldForget();
        isSound();
        digest();
        manyGathered();
        Check.finish();
    }

    private static void forget() {
        TimeStore x = new TimeStore();
        x.tell(0, 0, 10, 1);
        x.tick(0, 2);
        x.tell(0, 0, 10, 2);
        x.tell(0, 1, 10, 2);
        x.tick(0, 2);
        x.tell(0, 0, 10, 3);
        x.tick(0, 2);
        Check.due(21, x.forget(0, 1), 0);
        Check.due(21, x.ofStore(0, 1), 1);
        Check.due(21, x.forget(0, 2), 1);
        Check.due(21, x.ofStore(0, 3), 3);
        Check.due(21, x.ofStore(0, 6), 1);
        Check.due(21, x.read(0, 0, 10, 2), 2);
        Check.due(21, x.read(0, 0, 10, 3), 2);
        Check.due(21, x.forget(0, 3), 0);
        Check.due(21, x.forget(0, 6), 1);
        Check.due(21, x.forget(0, 6), 0);
        Check.due(21, x.ofStore(0, 6), 2);
        Check.due(21, x.ofStore(0, 1), 6);
        Check.due(21, x.line(0, 0, 6), "10:3");
        Check.due(21, x.words(0, 1, 10), 1);
        Check.due(21, x.ofStore(1, 1), 0);
        // A word that says BACK stays, as the last one about its period.
        x.takeBack(0, 0, 10);
        x.tick(0, 1);
        Check.due(21, x.forget(0, 7), 1);
        Check.due(21, x.words(0, 0, 10), 1);
        Check.due(21, x.word(0, 0, 10, 0, 1), -2);
        // A full store has room again.
        TimeStore y = TellingTest.full();
        y.tick(0, 1);
        Check.due(21, y.forget(0, 1), 0);
        TimeStore z = new TimeStore();
        for (int minute = 0; minute < 120; minute++) {
            z.tell(0, 0, 5, minute % 100);
            z.tick(0, 1);
        }
        Check.state(2, z, () -> z.tell(0, 0, 5, 1));
        Check.due(21, z.forget(0, 119), 119);
        Check.due(21, z.tell(0, 0, 5, 1), 1);
        Check.due(21, z.ofStore(0, 3), 2);
    }

    private static void forgetThrows() {
        TimeStore x = new TimeStore();
        x.tick(0, 5);
        x.forget(0, 2);
        for (boolean isAct : new boolean[] {true, false}) {
            int promise = isAct ? 21 : 59;
            Check.index(promise, x, () -> forgetOrAsk(x, isAct, 2, 1000));
            Check.index(promise, x, () -> forgetOrAsk(x, isAct, -1, 0));
            Check.argument(promise, x, () -> forgetOrAsk(x, isAct, 0, -1));
            Check.argument(promise, x, () -> forgetOrAsk(x, isAct, 0, 1000));
            Check.state(promise, x, () -> forgetOrAsk(x, isAct, 0, 1));
            Check.state(promise, x, () -> forgetOrAsk(x, isAct, 0, 6));
            Check.state(promise, x, () -> forgetOrAsk(x, isAct, 1, 1));
        }
        Check.due(21, x.forget(0, 2), 0);
        Check.due(21, x.forget(0, 5), 0);
    }

    private static int forgetOrAsk(TimeStore x, boolean isAct, int store, int known) {
        return isAct ? x.forget(store, known) : x.wouldForget(store, known);
    }

    private static void gather() {
        TimeStore x = new TimeStore();
        x.tell(0, 0, 10, 1);
        x.tell(0, 0, 20, 2);
        Check.due(22, x.gather(1), 0);
        Check.due(22, x.gather(0), 2);
        Check.due(22, x.gather(0), 0);
        x.tell(0, 0, 15, 3);
        x.tell(1, 0, 10, 4);
        Check.due(22, x.gather(0), 1);
        Check.due(22, x.gather(1), 1);
        Check.due(22, x.ofBook(0), 4);
        // The book keeps what a store forgets.
        x.tick(0, 1);
        x.tell(0, 0, 10, 9);
        x.forget(0, 1);
        Check.due(22, x.gather(0), 1);
        Check.due(22, x.ofBook(0), 5);
        Check.due(22, x.bookRead(0, 10, 0), 4);
        Check.due(22, x.bookRead(0, 10, 1), 9);
        Check.index(22, x, () -> x.gather(2));
        Check.index(22, x, () -> x.gather(-1));
    }

    private static void emptyBook() {
        TimeStore x = new TimeStore();
        Check.due(23, x.emptyBook(), 0);
        x.tell(0, 0, 10, 1);
        x.tell(1, 0, 10, 2);
        x.gather(0);
        x.gather(1);
        Check.due(23, x.emptyBook(), 2);
        Check.due(23, x.emptyBook(), 0);
        Check.due(23, x.bookRead(0, 999, 999), -1);
        Check.due(23, x.gather(0), 1);
        Check.due(23, x.bookRead(0, 999, 999), 1);
    }

    private static void knock() {
        TimeStore x = new TimeStore();
        for (int times = 1; times <= 5; times++) {
            Check.due(24, x.knock(), times);
            Check.due(57, x.house(3), times);
        }
    }

    private static void bookAnswers() {
        TimeStore x = new TimeStore();
        x.tell(1, 39, 10, 1);
        x.tell(0, 39, 10, 2);
        x.tell(0, 39, 20, 3);
        x.tick(0, 3);
        x.tick(1, 2);
        x.takeBack(1, 39, 10);
        x.tell(0, 39, 10, 4);
        x.end(0, 39, 30);
        x.gather(0);
        x.gather(1);
        // Told at the same minute, that of store 1 counts as told later, whichever was gathered first.
        Check.due(51, x.bookRead(39, 10, 0), 1);
        Check.due(51, x.bookRead(39, 10, 1), 1);
        Check.due(51, x.bookRead(39, 10, 2), -1);
        Check.due(51, x.bookRead(39, 10, 3), 4);
        Check.due(51, x.bookRead(39, 9, 999), -1);
        Check.due(51, x.bookRead(39, 20, 0), 3);
        Check.due(51, x.bookRead(39, 999, 2), 3);
        Check.due(51, x.bookRead(39, 999, 999), -1);
        Check.due(51, x.bookRead(38, 999, 999), -1);
        Check.due(52, x.bookBy(39, 10, 0), 1);
        Check.due(52, x.bookBy(39, 10, 2), -1);
        Check.due(52, x.bookBy(39, 10, 3), 0);
        Check.due(52, x.bookBy(39, 9, 999), -1);
        Check.due(52, x.bookBy(39, 999, 999), 0);
        Check.due(52, x.bookBy(0, 0, 0), -1);
        // It does not ask whether a minute is known of a store; it does not know what was not gathered.
        x.tell(1, 39, 25, 5);
        Check.due(51, x.bookRead(39, 25, 999), 3);
        x.gather(1);
        Check.due(51, x.bookRead(39, 25, 999), 5);
        Check.due(52, x.bookBy(39, 25, 999), 1);
        Check.index(51, x, () -> x.bookRead(40, -1, 0));
        Check.index(51, x, () -> x.bookRead(-1, 0, 1000));
        Check.argument(51, x, () -> x.bookRead(0, -1, 0));
        Check.argument(51, x, () -> x.bookRead(0, 1000, 0));
        Check.argument(51, x, () -> x.bookRead(0, 0, -1));
        Check.argument(51, x, () -> x.bookRead(0, 0, 1000));
        Check.index(52, x, () -> x.bookBy(40, -1, 0));
        Check.index(52, x, () -> x.bookBy(-1, 0, 1000));
        Check.argument(52, x, () -> x.bookBy(0, -1, 0));
        Check.argument(52, x, () -> x.bookBy(0, 1000, 0));
        Check.argument(52, x, () -> x.bookBy(0, 0, -1));
        Check.argument(52, x, () -> x.bookBy(0, 0, 1000));
    }

    private static void ofBook() {
        TimeStore x = new TimeStore();
        for (int what = 0; what < 4; what++) {
            Check.due(53, x.ofBook(what), 0);
        }
        x.tell(0, 0, 1, 1);
        x.tell(0, 0, 2, 1);
        x.tell(0, 39, 1, 1);
        x.tell(1, 0, 1, 1);
        x.tell(1, 7, 1, 1);
        x.gather(1);
        x.gather(0);
        int[] due = {5, 3, 3, 2};
        for (int what = 0; what < 4; what++) {
            Check.due(53, x.ofBook(what), due[what]);
        }
        Check.argument(53, x, () -> x.ofBook(-1));
        Check.argument(53, x, () -> x.ofBook(4));
    }

    private static void joinedRead() {
        TimeStore x = new TimeStore();
        x.tell(1, 0, 10, 1);
        x.tell(0, 0, 10, 2);
        x.tell(0, 0, 20, 3);
        x.tick(0, 4);
        x.end(0, 0, 10);
        x.tick(1, 2);
        x.takeBack(1, 0, 10);
        // Asked first of all, and again of more words.
        Check.due(54, x.joinedRead(0, 20, 999, true), 3);
        x.tell(0, 1, 30, 5);
        Check.due(54, x.joinedRead(1, 30, 999, false), 5);
        x.tell(1, 1, 30, 6);
        Check.due(54, x.joinedRead(1, 30, 3, true), 6);
        Check.due(54, x.joinedRead(1, 30, 999, true), 5);
        long before = x.digest();
        for (boolean isOtherFirst : new boolean[] {false, true}) {
            Check.due(54, x.joinedRead(0, 10, 0, isOtherFirst), 1);
            Check.due(54, x.joinedRead(0, 10, 2, isOtherFirst), -1);
            Check.due(54, x.joinedRead(0, 10, 999, isOtherFirst), -1);
            Check.due(54, x.joinedRead(0, 20, 0, isOtherFirst), 3);
            Check.due(54, x.joinedRead(0, 9, 999, isOtherFirst), -1);
            Check.due(54, x.joinedRead(39, 999, 999, isOtherFirst), -1);
            Check.index(54, x, () -> x.joinedRead(40, -1, 0, isOtherFirst));
            Check.index(54, x, () -> x.joinedRead(-1, 0, 1000, isOtherFirst));
            Check.argument(54, x, () -> x.joinedRead(0, -1, 0, isOtherFirst));
            Check.argument(54, x, () -> x.joinedRead(0, 1000, 0, isOtherFirst));
            Check.argument(54, x, () -> x.joinedRead(0, 0, -1, isOtherFirst));
            Check.argument(54, x, () -> x.joinedRead(0, 0, 1000, isOtherFirst));
        }
        Check.due(54, x.digest(), before);
        // What the book has does not count.
        TimeStore y = new TimeStore();
        y.tell(0, 0, 5, 1);
        y.gather(0);
        y.tick(0, 1);
        y.tell(0, 0, 5, 2);
        y.forget(0, 1);
        Check.due(54, y.joinedRead(0, 5, 0, false), -1);
        Check.due(54, y.joinedRead(0, 5, 0, true), -1);
        Check.due(54, y.bookRead(0, 5, 0), 1);
    }

    private static void joinedWords() {
        TimeStore x = new TimeStore();
        for (int what = 0; what < 3; what++) {
            Check.due(55, x.joinedWords(what), 0);
        }
        x.tell(0, 0, 5, 1);
        x.tell(1, 0, 5, 1);
        x.tell(1, 0, 6, 1);
        Check.due(55, x.joinedWords(0), 3);
        x.gather(1);
        x.tick(1, 1);
        x.tell(1, 0, 6, 2);
        x.forget(1, 1);
        // The book has one word that its store forgot.
        Check.due(55, x.joinedWords(2), 4);
        Check.due(55, x.joinedWords(0), 3);
        Check.due(55, x.joinedWords(1), 4);
        Check.due(55, x.joinedWords(2), 4);
        Check.due(55, x.ofBook(0), 2);
        Check.argument(55, x, () -> x.joinedWords(-1));
        Check.argument(55, x, () -> x.joinedWords(3));
    }

    private static void ofStore() {
        TimeStore x = new TimeStore();
        x.watcher(1, 4);
        x.watch(0, 1, 3);
        x.watch(0, 1, 4);
        x.tell(1, 3, 5, 1);
        x.tick(1, 7);
        x.tell(1, 3, 5, 2);
        x.tell(1, 3, 6, 2);
        x.endAt(1, 8, 9);
        x.forget(1, 7);
        // Told were six about two keys, of which two left; key 4's own wish was missed each time.
        int[] due = {7, 7, 2, 4, 1, 3, 2};
        int[] other = {0, 0, 0, 0, 0, 0, 0};
        for (int what = 0; what < 7; what++) {
            Check.due(56, x.ofStore(1, what), due[what]);
            Check.due(56, x.ofStore(0, what), other[what]);
        }
        Check.index(56, x, () -> x.ofStore(2, 7));
        Check.index(56, x, () -> x.ofStore(-1, 0));
        Check.argument(56, x, () -> x.ofStore(0, -1));
        Check.argument(56, x, () -> x.ofStore(0, 7));
    }

    private static void house() {
        TimeStore x = new TimeStore();
        x.watcher(2, 0);
        x.watcher(0, 0);
        x.watcher(0, 0);
        x.watch(0, 0, 0);
        x.tell(0, 0, 1, 1);
        x.end(1, 1, 1);
        x.window(0, 0, 0, 1);
        x.window(0, 0, 0, 1);
        x.snap(0, 0);
        x.knock();
        x.knock();
        x.knock();
        x.knock();
        int[] due = {3, 2, 1, 4, 3};
        for (int what = 0; what < 5; what++) {
            Check.due(57, x.house(what), due[what]);
        }
        // Words told ever, also those that left.
        x.tick(0, 1);
        x.tell(0, 0, 1, 2);
        x.forget(0, 1);
        Check.due(57, x.house(4), 4);
        Check.argument(57, x, () -> x.house(-1));
        Check.argument(57, x, () -> x.house(5));
    }

    private static void wouldSpan() {
        TimeStore x = new TimeStore();
        x.tell(0, 0, 10, 1);
        x.tell(0, 0, 20, 2);
        Check.refused(58, x, () -> x.wouldSpan(0, 0, 10, 30));
        Check.refused(58, x, () -> x.wouldSpan(0, 0, 5, 15));
        Check.due(58, x.wouldSpan(0, 0, 15, 20), 1);
        Check.due(58, x.wouldSpan(0, 0, 0, 999), -9);
        x.tick(0, 1);
        long before = x.digest();
        Check.due(58, x.wouldSpan(0, 0, 10, 20), 1);
        Check.due(58, x.wouldSpan(0, 0, 10, 21), 3);
        Check.due(58, x.wouldSpan(0, 0, 5, 20), 2);
        Check.due(58, x.wouldSpan(0, 0, 5, 25), 4);
        Check.due(58, x.wouldSpan(0, 0, 0, 999), 4);
        Check.due(58, x.wouldSpan(0, 0, 998, 999), 2);
        Check.due(58, x.wouldSpan(1, 39, 0, 1), 2);
        Check.due(58, x.digest(), before);
        Check.index(58, x, () -> x.wouldSpan(2, 0, -1, 0));
        Check.index(58, x, () -> x.wouldSpan(-1, 0, 0, 1));
        Check.index(58, x, () -> x.wouldSpan(0, 40, 1, 0));
        Check.index(58, x, () -> x.wouldSpan(0, -1, 0, 1));
        Check.argument(58, x, () -> x.wouldSpan(0, 0, -1, 5));
        Check.argument(58, x, () -> x.wouldSpan(0, 0, 999, 1000));
        Check.argument(58, x, () -> x.wouldSpan(0, 0, 999, 999));
        Check.argument(58, x, () -> x.wouldSpan(0, 0, 5, 5));
        Check.argument(58, x, () -> x.wouldSpan(0, 0, 5, 1000));
    }

    private static void wouldForget() {
        TimeStore x = new TimeStore();
        for (int minute = 0; minute < 5; minute++) {
            x.tell(0, 0, 10, minute);
            x.tell(0, 1, minute, minute);
            x.tick(0, 2);
        }
        long before = x.digest();
        for (int known = 0; known <= 10; known++) {
            Check.due(59, x.wouldForget(0, known), Math.min(known / 2, 4));
        }
        Check.due(59, x.wouldForget(1, 0), 0);
        Check.due(59, x.digest(), before);
        Check.due(59, x.forget(0, 5), 2);
        Check.due(59, x.wouldForget(0, 5), 0);
        Check.due(59, x.wouldForget(0, 6), 1);
    }

    private static void isSound() {
        TimeStore x = new TimeStore();
        Check.due(60, x.isSound(), true);
        x.watcher(2, 0);
        x.watcher(3, 7);
        x.watch(0, 0, 0);
        x.watch(1, 1, 0);
        for (int minute = 0; minute < 30; minute++) {
            x.tell(0, 0, minute % 4, minute);
            x.tell(0, 5, minute, 1);
            if (minute % 5 == 0) {
                x.snap(0, minute / 2);
                x.window(0, 5, 0, minute);
            }
            x.gather(minute % 2);
            if (minute == 20) {
                x.forget(0, 11);
            }
            Check.due(60, x.isSound(), true);
            x.tick(0, 1);
            x.tick(1, 1);
        }
        Check.due(60, x.isSound(), true);
    }

    private static void digest() {
        Check.due(61, new TimeStore().digest(), -8548620108031348749L);
        TimeStore x = TellingTest.full();
        Check.due(61, x.digest(), x.digest());
        // All that can be seen in it changes it.
        Runnable[] acts = {
            () -> x.knock(), () -> x.tick(0, 1), () -> x.forget(0, 1), () -> x.tell(1, 0, 0, 1),
            () -> x.end(1, 0, 1), () -> x.tick(1, 1), () -> x.takeBack(1, 0, 0), () -> x.endAt(1, 0, 2),
            () -> x.endAt(1, 1, 2), () -> x.endAt(1, 0, 3), () -> x.endNever(1, 0), () -> x.watcher(0, 0),
            () -> x.watch(0, 1, 0), () -> x.tell(1, 0, 5, 1), () -> x.unwatch(0, 1, 0),
            () -> x.window(1, 0, 0, 9), () -> x.narrow(0, 0, 8), () -> x.trim(0, 1), () -> x.snap(0, 1),
            () -> x.snapNext(0), () -> x.rewind(0), () -> x.drop(0), () -> x.shut(0), () -> x.gather(0),
            () -> x.gather(1), () -> x.emptyBook(),
        };
        long before = x.digest();
        for (int act = 0; act < acts.length; act++) {
            acts[act].run();
            Check.due(61, x.digest() != before ? "another" : "the same after act " + act, "another");
            before = x.digest();
        }
    }

    /** As many words in the book as the 512 calls on one object bring. */
    private static void manyGathered() {
        TimeStore x = new TimeStore();
        x.watcher(2, 0);
        for (int number = 1; number < 12; number++) {
            x.watcher(1, number);
        }
        for (int key = 0; key < 12; key++) {
            x.watch(0, 0, key);
            if (key < 11) {
                x.watch(key + 1, 0, key);
            }
        }
        int words = 0;
        for (int minute = 0; minute < 40; minute++) {
            x.tell(0, 0, 0, minute % 100);
            words += x.gather(0) + x.gather(1);
            Check.due(22, x.ofBook(0), words);
            x.tick(0, 1);
            x.tick(1, 1);
            x.forget(0, minute + 1);
            x.forget(1, minute + 1);
        }
        Check.due(22, words, 40 * 24);
        for (int minute = 0; minute < 40; minute++) {
            Check.due(51, x.bookRead(11, 0, minute), minute);
            Check.due(52, x.bookBy(11, 0, minute), 1);
        }
        Check.due(53, x.ofBook(2), 40 * 12);
        Check.due(55, x.joinedWords(1), words);
        Check.due(55, x.joinedWords(2), words);
        Check.due(60, x.isSound(), true);
    }
}
