/**
 * The edges that promises 1 to 60 name in their "Returns" and "Throws" sentences, promise by promise, but
 * for the ranges of arguments (RangeTest) and what sections 1 to 7 name (SectionEdgeTest).
 */
final class PromiseEdgeTest {
    public static void main(String[] args) {
        Rows.check(TELLING);
        Rows.check(ENDING_AND_LISTENING);
        Rows.check(WINDOWS_AND_SNAPSHOTS);
        Rows.check(FORGETTING_AND_BOOK);
        Rows.check(READING.replace("TURNS", TURNS));
        Rows.check(WORDS);
        Rows.check(LISTENERS);
        Rows.check(PANES);
        Rows.check(JOURNAL_AND_BOOK);
        Rows.check(ALL);
        Check.finish();
    }

    private static final String TELLING = """
        # 1 creates two empty stores
        ofStore 0 0 = 0; ofStore 0 1 = 0; ofStore 0 2 = 0; ofStore 0 3 = 0; ofStore 0 4 = 0; ofStore 0 5 = 0; ofStore 0 6 = 0
        ofStore 1 0 = 0; ofStore 1 1 = 0; ofStore 1 2 = 0; ofStore 1 3 = 0; ofStore 1 4 = 0; ofStore 1 5 = 0; ofStore 1 6 = 0
        house 0 = 0; house 1 = 0; house 2 = 0; house 3 = 0; house 4 = 0; ofBook 0 = 0; isSound = true
        entry 0 0 0 = index; ending 1 0 = index; watcherAt 0 0 0 = index; heard 0 0 = index; ofWindow 0 0 = index; ofSnap 0 0 = index

        # 2 returns how many WORDS were TOLD in both STORES, without those that were MISSED
        : watcher 2 0; watcher 1 7; watch 0 0 5; watch 1 0 5; watch 1 0 7
        tell 0 5 0 0 = 3; ofStore 0 5 = 1; house 4 = 3; line 0 7 0 = "0:0"; line 1 5 0 = "0:0"
        tell 0 5 999 99 = 3; tell 0 5 999 99 = state; house 4 = 3
        tell 1 7 0 1; tell 1 5 0 1; tell 0 5 0 0 = 2; ofStore 1 5 = 1

        # 3 to is from + 1 to 999, from 0 to 998
        tellSpan 0 0 0 1 0 = 2; tellSpan 0 0 998 999 99 = 2; line 0 0 0 = "0:0 1:x 998:99 999:x"
        tellSpan 0 39 0 999 1 = 2
        tellSpan 0 0 998 998 1 = argument
        tellSpan 0 0 999 1000 1 = argument
        tellSpan 0 0 999 999 1 = argument
        tellSpan 0 0 10 10 1 = argument
        tellSpan 0 0 10 9 1 = argument
        tellSpan 0 0 -1 0 1 = argument
        tellSpan 0 0 2147483647 -2147483648 1 = argument
        tellSpan 0 0 10 11 1 = 2
        # 3 returns how many WORDS were TOLD in both STORES: its own, and those that were wanted
        : watcher 2 0; watch 0 0 5; tell 0 5 10 1; tell 0 5 20 2; tick 0 1; tick 1 1
        tellSpan 0 5 5 25 9 = 8; line 1 5 1 = "5:9 25:2"; ofStore 1 5 = 0
        tellSpan 0 5 5 20 9 = 4; tell 1 5 20 1; ofStore 1 5 = 0
        tell 1 5 25 1; tellSpan 0 5 5 25 9 = 7; ofStore 1 5 = 1

        # 4 a WORD that says ENDED, about the first PERIOD and the last one
        end 0 0 0 = 1; end 0 39 999 = 1; line 0 0 0 = "0:x"; line 0 39 0 = "999:x"; end 0 0 0 = state; word 0 0 0 0 1 = -1
        # 4 ENDED where it has ENDED already may be told anew
        : end 0 0 5; tick 0 1
        end 0 0 5 = 1; words 0 0 5 = 2

        # 5 a WORD that says BACK, about the first PERIOD and the last one
        : tell 0 0 0 1; tell 0 39 999 1; tick 0 1
        takeBack 0 0 0 = 1; takeBack 0 39 999 = 1; line 0 0 1 = ""; word 0 39 999 1 1 = -2
        # 5 what it makes wanted says BACK, too
        : watcher 1 7; tell 0 5 10 1; tell 0 7 10 2; watch 0 0 5; tick 0 1
        takeBack 0 5 10 = 2; line 0 7 1 = ""; word 0 7 10 1 1 = -2

        # 6 NONE if there is no LATEST of both; otherwise REFUSED (also if it says BACK)
        : tell 0 5 0 1; tell 0 5 999 1; end 0 5 20; tick 0 1; tell 0 5 30 1; takeBack 0 5 0
        tamper 0 5 0 0 = -9; tamper 0 5 999 99 = -9; tamper 0 5 20 5 = -9; tamper 0 5 30 5 = -9
        tamper 0 5 1 1 = -1; tamper 0 5 998 1 = -1; tamper 0 4 999 1 = -1; tamper 0 6 0 1 = -1; tamper 1 5 0 1 = -1
        tick 0 1; takeBack 0 5 999; forget 0 2; tamper 0 5 999 1 = -9
        """;

    private static final String ENDING_AND_LISTENING = """
        # 7 minutes are 1 to 200; IllegalStateException if the CLOCK would be above 999
        tick 0 1 = 0; tick 0 200 = 0; ofStore 0 0 = 201
        tick 0 0 = argument
        tick 0 201 = argument
        : ticks 0 998
        tick 0 1 = 0; ofStore 0 0 = 999
        tick 0 2 = state
        tick 0 200 = state
        tick 0 201 = argument
        : ticks 0 999
        tick 0 1 = state
        tick 0 0 = argument
        tick 2 1 = index
        tick 1 200 = 0
        # 7 returns how many ENDINGS came, also those whose WORD was MISSED
        : fill 0 119; endAt 0 0 10; endAt 0 1 10; endAt 0 2 11; endAt 0 3 12
        tick 0 9 = 0; tick 0 2 = 3; ofStore 0 5 = 2; ofStore 0 4 = 1; tick 0 1 = 1; ofStore 0 5 = 3
        # 7 all 40 KEYS may have an ENDING at one MINUTE
        : endAt 0 K 7
        ofStore 0 4 = 40; endingsAt 0 7 = 40; ending 0 39 = 39; ending 0 40 = index; endAt 0 0 8 = 7; ending 0 39 = 0; endAt 0 0 7 = 8; ending 0 39 = 0
        tick 0 7 = 40; ofStore 0 3 = 40; ofStore 0 4 = 0; entry 0 39 1 = 39; entry 0 39 2 = 7; isSound = true

        # 8 returns the MINUTE of the ENDING that it had, or NONE; it must be BEHIND the CLOCK
        : ticks 0 10
        endAt 0 0 11 = -1; endAt 0 0 11 = 11; endAt 0 0 999 = 11; endAt 0 39 999 = -1; endAt 0 0 10 = state; endingOf 0 0 = 999
        endAt 0 0 9 = state
        endAt 0 0 0 = state
        endAt 0 0 1000 = argument

        # 9 returns the MINUTE of the ENDING that it had, or NONE
        : endAt 0 0 1; endAt 0 39 999; endAt 0 5 1
        endNever 0 0 = 1; endNever 0 0 = -1; endNever 0 39 = 999; ofStore 0 4 = 1; ending 0 0 = 5; ending 0 1 = index
        endNever 0 5 = 1; endAt 0 0 1 = 1; endAt 0 5 1 = -1; ending 0 0 = 0; ending 0 1 = 5
        endNever 1 0 = -1; endNever 0 7 = -1; ofStore 0 4 = 3; tick 0 1 = 2; endNever 0 0 = -1

        # 10 a WATCHER begins; it hears nothing yet
        watcher 0 0 = 0; watcher 3 39 = 1; heard 0 2 = 0; heard 1 0 = 3; heard 1 1 = 39; watching 0 0 = 0; tell 0 0 0 5; heard 0 2 = 0

        # 11 returns whether it was not there yet; it comes last of those there; one that is there keeps its place
        : 3x watcher 0 0; watch 2 0 5; watch 0 0 5
        watch 1 0 5 = true; watcherAt 0 5 2 = 1; watching 0 5 = 3; watch 2 0 5 = false; watcherAt 0 5 0 = 2; watching 0 5 = 3
        watch 2 1 5 = true; watch 2 0 4 = true; watch 2 0 6 = true; watching 0 5 = 2
        # 11 all 12 may come to one KEY, and to all KEYS
        : 12x watcher 0 0; watch W 1 39; unwatch 11 1 39
        watch 11 1 39 = true; watching 1 39 = 12; watcherAt 1 39 11 = 11; watch 11 1 39 = false; watch 12 1 39 = index; watch 11 0 0 = true
        unwatch 10 1 39 = true; watching 1 39 = 10; watch 11 1 39 = true; watch 10 1 39 = true; watcherAt 1 39 10 = 11; watcherAt 1 39 11 = 10
        # 11 there is no WATCHER yet
        watch 0 0 0 = index
        unwatch 0 0 0 = index

        # 12 returns whether it was there
        : 3x watcher 0 0; watch 0 0 5; watch 1 0 5; watch 2 0 5
        unwatch 0 0 5 = true; watcherAt 0 5 0 = 1; watcherAt 0 5 1 = 2; watcherAt 0 5 2 = index; unwatch 0 0 5 = false
        unwatch 1 0 5 = true; watcherAt 0 5 0 = 0; watcherAt 0 5 1 = 2; watch 1 0 5 = true; watcherAt 0 5 2 = 1
        unwatch 2 0 5 = true; watcherAt 0 5 1 = 1; watching 0 5 = 2
        unwatch 0 1 5 = false; unwatch 0 0 4 = false; unwatch 0 0 6 = false
        """;

    private static final String WINDOWS_AND_SNAPSHOTS = """
        # 13 REFUSED if from is BEHIND to; both may be the same MINUTE
        : tell 0 5 10 1
        window 0 5 10 10 = 0
        window 0 5 0 0 = 0
        window 0 5 999 999 = 0
        window 0 5 1 0 = -9
        window 0 5 999 998 = -9
        window 0 5 999 0 = -9
        # 13 IllegalStateException if no WORD about the KEY lies in the STORE, ahead of REFUSED
        window 0 4 0 1 = state
        window 0 4 1 0 = state
        : tell 0 5 0 1; tell 1 4 999 1
        window 0 5 0 1 = 0
        window 0 4 0 1 = state
        window 0 6 0 1 = state
        window 1 5 0 1 = state
        window 1 4 0 1 = 0
        tick 0 1; takeBack 0 5 0; forget 0 1; window 0 5 0 1 = 0

        # 14 REFUSED if from is BEHIND to, or one of both does not belong to the WINDOW
        : tell 0 5 10 1; tell 0 5 20 2; window 0 5 10 20
        narrow 0 10 20 = 2; narrow 0 11 20 = 1; narrow 0 10 20 = -9; ofWindow 0 2 = 11
        narrow 0 10 19 = 1; narrow 0 10 20 = -9; ofWindow 0 3 = 19
        narrow 0 9 20 = -9
        narrow 0 10 21 = -9
        narrow 0 9 9 = -9
        narrow 0 21 21 = -9
        narrow 0 16 15 = -9
        narrow 0 20 10 = -9
        narrow 0 15 15 = 0; ofWindow 0 4 = 0; narrow 0 15 15 = 0
        narrow 0 10 10 = 1; narrow 0 20 20 = -9
        narrow 0 20 20 = 1
        narrow 1 10 20 = index

        # 15 REFUSED if from does not belong to the WINDOW; it goes to the MINUTE to which it went
        : tell 0 5 10 1; tell 0 5 20 2; window 0 5 10 20
        trim 0 10 = 2; trim 0 11 = 1; ofWindow 0 2 = 11; ofWindow 0 3 = 20; trim 0 10 = -9
        trim 0 20 = 1; ofWindow 0 3 = 20; trim 0 20 = 1; trim 0 19 = -9
        trim 0 9 = -9
        trim 0 21 = -9
        trim 0 0 = -9
        trim 0 999 = -9

        # 16 returns how many are left
        : tell 0 5 10 1; 6x window 0 5 0 1
        shut 5 = 5; shut 0 = 4; shut 3 = 3; shut 3 = index; shut 0 = 2; shut 0 = 1; shut 0 = 0; shut 0 = index

        # 17 IllegalStateException if known is not KNOWN of the STORE, or there are 6
        : ticks 0 5; ticks 1 3; forget 0 2
        snap 0 2 = 0; snap 0 5 = 1; snap 1 0 = 2; snap 1 3 = 3; ofSnap 1 1 = 5; ofSnap 3 0 = 1
        snap 0 1 = state
        snap 0 6 = state
        snap 1 4 = state
        6x snap 0 5; snap 0 5 = state; snap 0 1 = state; snap 0 -1 = argument
        # 17 a SNAPSHOT of a full STORE has 120 ENTRIES
        : fill 0 120
        snap 0 0 = 0; ofSnap 0 4 = 120; ofSnap 0 3 = 40; 120x snapNext 0; ofSnap 0 5 = 39; ofSnap 0 6 = 2; snapNext 0 = -9; rewind 0 = 120

        # 18 returns the KEY of the ENTRY that it comes to; REFUSED if there is none more (the MARK stays)
        : tell 0 5 10 1; tell 0 0 3 2; snap 0 0; snap 1 0
        snapNext 0 = 0; snapNext 0 = 5; snapNext 0 = -9; ofSnap 0 6 = 10; snapNext 0 = -9; rewind 0 = 2; snapNext 0 = 0
        snapNext 1 = -9; ofSnap 1 5 = -1

        # 19 returns how many ENTRIES the MARK had come to (0 if it is ahead of the first one)
        rewind 0 = index
        : tell 0 5 10 1; tell 0 0 3 2; snap 0 0; snap 1 0
        rewind 0 = 0; rewind 1 = 0; snapNext 0; rewind 0 = 1; rewind 0 = 0; ofSnap 0 5 = -1
        2x snapNext 0; rewind 0 = 2; snapNext 0 = 0
        3x snapNext 0; rewind 0 = 2

        # 20 returns how many are left
        : 6x snap 0 0
        drop 5 = 5; drop 0 = 4; drop 3 = 3; drop 3 = index; drop 0 = 2; drop 0 = 1; drop 0 = 0; drop 0 = index
        """;

    private static final String FORGETTING_AND_BOOK = """
        # 21 returns how many WORDS left: none, or all but one of 120
        forget 0 0 = 0; forget 1 0 = 0; forget 0 1 = state
        : fill 0 119; tick 0 1; tell 0 0 0 2
        forget 0 0 = 0; forget 0 1 = 1; forget 0 1 = 0; ofStore 0 6 = 1; ofStore 0 3 = 119
        : fill 0 40; ticks 0 5; fill 0 40; ticks 0 5; fill 0 40
        forget 0 4 = 0; forget 0 5 = 40; forget 0 9 = 0; forget 0 10 = 40; forget 0 10 = 0; ofStore 0 6 = 80; journal 0 9 = 0; entry 0 39 0 = 10
        forget 0 10 = 80; ofStore 0 3 = 40; entry 0 0 1 = 0; entry 0 39 1 = 39; entry 0 40 0 = index; isSound = true

        # 22 returns how many WORDS came into the BOOK
        gather 0 = 0; gather 1 = 0
        : fill 0 120; fill 1 120
        gather 0 = 120; gather 0 = 0; gather 1 = 120; ofBook 0 = 240; ofBook 1 = 40; ofBook 2 = 120; ofBook 3 = 120
        gather 1 = 120; gather 1 = 0; gather 0 = 120; emptyBook = 240; gather 0 = 120

        # 23 returns how many WORDS it had
        emptyBook = 0
        : tell 0 0 0 1; gather 0
        emptyBook = 1; emptyBook = 0; ofBook 0 = 0; ofBook 1 = 0; ofStore 0 3 = 1; gather 0 = 1

        # 24 returns how often that was done ever, with this
        knock = 1; knock = 2; house 3 = 2
        : 510x knock
        knock = 511
        """;

    /** 120 WORDS about one KEY and PERIOD, at 120 MINUTES from 1 on, that say 1, ENDED, 1, ENDED .. and at last 2. */
    private static final String TURNS = "tick 0 1; " + "tell 0 5 10 1; tick 0 1; end 0 5 10; tick 0 1; ".repeat(59)
            + "tell 0 5 10 1; tick 0 1; tell 0 5 10 2";

    private static final String READING = """
        # 26 the ANSWER at the CLOCK, known at the CLOCK
        readNow 0 0 = -1
        : tell 0 5 0 4; tell 0 5 10 5; end 0 5 20; tell 0 39 999 6
        readNow 0 5 = 4; ticks 0 9; readNow 0 5 = 4; tick 0 1; readNow 0 5 = 5; ticks 0 9; readNow 0 5 = 5; tick 0 1; readNow 0 5 = -1; tell 0 5 20 7; readNow 0 5 = 7; tell 0 5 21 8; readNow 0 5 = 7
        ticks 0 998; readNow 0 39 = -1; tick 0 1; readNow 0 39 = 6; tell 0 39 999 8; readNow 0 39 = 8
        ticks 1 999; readNow 0 5 = 4; readNow 1 5 = -1

        # 27 0 the SPOT, 1 when it was told (both NONE if there is no SPOT), 2 the next PERIOD (1000 if there is none)
        : tell 0 5 0 1; tell 0 5 999 2; tick 0 3; tell 0 5 500 3
        spotOf 0 5 0 3 0 = 0; spotOf 0 5 0 3 1 = 0; spotOf 0 5 0 3 2 = 500; spotOf 0 5 0 2 2 = 999
        spotOf 0 5 499 3 0 = 0; spotOf 0 5 499 3 2 = 500; spotOf 0 5 500 3 0 = 500; spotOf 0 5 500 3 1 = 3; spotOf 0 5 500 3 2 = 999
        spotOf 0 5 998 3 2 = 999; spotOf 0 5 999 3 0 = 999; spotOf 0 5 999 3 1 = 0; spotOf 0 5 999 3 2 = 1000
        spotOf 0 4 999 3 0 = -1; spotOf 0 4 999 3 1 = -1; spotOf 0 4 0 3 2 = 1000; spotOf 0 6 0 3 2 = 1000; spotOf 0 5 0 3 3 = argument
        tick 0 1; takeBack 0 5 0; spotOf 0 5 499 4 0 = -1; spotOf 0 5 499 4 1 = -1; spotOf 0 5 0 4 2 = 500; spotOf 0 5 499 3 0 = 0

        # 28 the least PERIOD of the LINE, the greatest one if isLast; REFUSED if it has none
        bound 0 0 0 false = -9; bound 1 39 0 true = -9
        : tell 0 5 0 1; end 0 5 999; tell 0 6 7 1
        bound 0 5 0 false = 0; bound 0 5 0 true = 999; bound 0 6 0 false = 7; bound 0 6 0 true = 7; bound 0 4 0 false = -9; bound 0 7 0 true = -9
        tick 0 1; takeBack 0 6 7; bound 0 6 1 false = -9; bound 0 6 1 true = -9; bound 0 6 0 true = 7; takeBack 0 5 0; bound 0 5 1 false = 999

        # 29 the PERIOD, ":", and the VALUE, or "x"; "" if it has none
        line 0 0 0 = ""; line 1 39 0 = ""
        : tell 0 5 0 0; tell 0 5 999 99; end 0 5 100; tell 0 5 99 9; tell 0 5 9 10
        line 0 5 0 = "0:0 9:10 99:9 100:x 999:99"; line 0 4 0 = ""; line 0 6 0 = ""

        # 30 at how many of the 1000 MINUTES this is the ANSWER; for a VALUE, or NONE
        lasts 0 0 0 -1 = 1000; lasts 0 0 0 0 = 0; lasts 0 0 0 99 = 0
        lasts 0 0 0 -2 = argument
        lasts 0 0 0 100 = argument
        : tell 0 5 0 0; tell 0 6 999 99; tell 0 7 0 99; end 0 7 1
        lasts 0 5 0 0 = 1000; lasts 0 5 0 -1 = 0; lasts 0 6 0 99 = 1; lasts 0 6 0 -1 = 999; lasts 0 7 0 99 = 1; lasts 0 7 0 -1 = 999

        # 31 at how many of the 1000 MINUTES the ANSWERS are unlike; both must be KNOWN
        : tell 0 6 5 5; tick 0 2; tell 0 5 0 1; tell 0 6 999 1; tell 0 7 998 1; tick 0 1; forget 0 1
        differ 0 5 1 2 = 1000; differ 0 5 2 1 = 1000; differ 0 5 2 3 = 0; differ 0 5 1 1 = 0; differ 0 6 1 3 = 1; differ 0 7 3 1 = 2; differ 0 4 1 3 = 0
        tell 0 5 3 2; tell 0 5 7 1; tell 0 4 9 8; tick 0 1; tell 0 4 0 8; differ 0 5 2 4 = 4; differ 0 5 4 2 = 4; differ 0 4 3 4 = 9
        differ 0 5 0 3 = state
        differ 0 5 3 0 = state
        differ 0 5 4 3 = state
        differ 0 5 3 4 = state
        differ 0 5 4 1000 = argument
        differ 0 5 -1 4 = argument

        # 32 MINUTES u BEHIND the HORIZON and not BEHIND the CLOCK, the ANSWER at u unlike that known at u - 1
        changes 0 0 0 = 0
        : tell 0 5 0 1; tick 0 1; tell 0 5 0 2; tick 0 1; tell 0 5 0 2; tick 0 1; end 0 5 0; tick 0 1
        changes 0 5 0 = 2; changes 0 5 999 = 2; changes 0 4 0 = 0; tell 0 5 0 3; changes 0 5 0 = 3
        forget 0 1; changes 0 5 0 = 1
        forget 0 2; changes 0 5 0 = 1
        forget 0 3; changes 0 5 0 = 0; tell 0 5 0 3; changes 0 5 0 = 1; forget 0 4; changes 0 5 0 = 0
        : tell 0 5 500 1; tick 0 1; tell 0 5 499 1; tick 0 1; takeBack 0 5 499
        changes 0 5 498 = 0; changes 0 5 499 = 2; changes 0 5 500 = 0

        # 32 all 120 WORDS about one KEY and PERIOD may each change the ANSWER, and the last one of them
        : TURNS
        changes 0 5 10 = 120; changes 0 5 9 = 0; firstKnown 0 5 10 2 = 120; firstKnown 0 5 10 1 = 1; firstKnown 0 5 10 -1 = 0
        forget 0 1; changes 0 5 10 = 119; firstKnown 0 5 10 2 = 120; firstKnown 0 5 10 -1 = 2; firstKnown 0 5 10 1 = 1
        lasts 0 5 120 2 = 990; differ 0 5 119 120 = 990; words 0 5 10 = 120; word 0 5 10 119 0 = 120; word 0 5 10 120 0 = index

        # 33 the least KNOWN MINUTE so that this is the ANSWER, known then; NONE if there is none
        firstKnown 0 0 0 -1 = 0; firstKnown 0 0 999 0 = -1; firstKnown 0 0 0 99 = -1
        firstKnown 0 0 0 -2 = argument
        firstKnown 0 0 0 100 = argument
        : tick 0 1; tell 0 5 10 1; tick 0 1; end 0 5 10; tick 0 1; tell 0 5 10 99
        firstKnown 0 5 10 -1 = 0; firstKnown 0 5 10 1 = 1; firstKnown 0 5 10 99 = 3; firstKnown 0 5 9 1 = -1; firstKnown 0 5 9 -1 = 0
        forget 0 2; firstKnown 0 5 10 -1 = 2; firstKnown 0 5 10 1 = -1; firstKnown 0 5 9 -1 = 2
        tick 0 5; forget 0 7; firstKnown 0 5 10 99 = 7; firstKnown 0 5 10 -1 = -1
        # 33 WORDS told AHEAD of the HORIZON may lie there still, but no MINUTE AHEAD of it is KNOWN
        : tell 0 5 10 1; tick 0 2; tell 0 5 20 2; tick 0 3; forget 0 5
        firstKnown 0 5 25 1 = -1; firstKnown 0 5 25 -1 = -1; firstKnown 0 5 25 2 = 5; firstKnown 0 5 15 1 = 5; changes 0 5 25 = 0
        """;

    private static final String WORDS = """
        # 34 how many WORDS about both lie in the STORE
        words 0 0 0 = 0; words 1 39 999 = 0
        : tell 0 5 10 1; tick 0 1; takeBack 0 5 10; tell 0 5 0 1; tell 0 5 999 1
        words 0 5 10 = 2; words 0 5 9 = 0; words 0 5 11 = 0; words 0 5 0 = 1; words 0 5 999 = 1; words 0 4 999 = 0; words 0 6 0 = 0; words 1 5 10 = 0

        # 35 by the MINUTES at which they were told, from 0; no such WORD
        word 0 0 0 0 0 = index
        : tell 0 5 10 1; tick 0 3; end 0 5 10; tick 0 3; takeBack 0 5 10; tell 0 5 11 5; tell 0 5 999 6; tell 0 6 0 7
        word 0 5 10 0 0 = 0; word 0 5 10 0 1 = 1; word 0 5 10 1 0 = 3; word 0 5 10 1 1 = -1; word 0 5 10 2 0 = 6; word 0 5 10 2 1 = -2
        word 0 5 10 3 0 = index; word 0 5 10 -1 0 = index; word 0 5 9 0 0 = index; word 0 5 999 1 0 = index; word 1 5 10 0 0 = index
        word 0 5 1000 0 0 = index; word 0 5 -1 0 0 = index; word 0 5 10 3 2 = index; word 0 5 10 2 2 = argument; word 0 5 10 2 -1 = argument
        forget 0 3; word 0 5 10 0 0 = 3; word 0 5 10 1 1 = -2; word 0 5 10 2 0 = index
        # 35 a PERIOD that is no MINUTE has no WORD, whatever lies about the KEYS beside it
        : tell 0 4 999 1; tell 0 5 0 2; tell 0 5 999 3; tell 0 6 0 4
        word 0 5 -1 0 0 = index; word 0 5 1000 0 0 = index; word 0 5 -1 0 1 = index; word 0 5 1024 0 1 = index; word 0 5 -1024 0 1 = index
        word 0 5 2147483647 0 0 = index; word 0 5 -2147483648 0 0 = index; word 0 5 0 2147483647 0 = index; word 0 5 0 -2147483648 0 = index
        """;

    private static final String LISTENERS = """
        # 36 the least MINUTE of an ENDING; REFUSED if there is none
        nextEnding 0 = -9; nextEnding 1 = -9
        : endAt 0 5 999; ticks 0 998
        nextEnding 0 = 999; nextEnding 1 = -9; tick 0 1 = 1; nextEnding 0 = -9
        endAt 0 0 999; endNever 0 5; nextEnding 0 = 999; endNever 0 0; nextEnding 0 = -9

        # 37 how many ENDINGS there are for it; REFUSED for NONE
        endingsAt 0 -1 = -9; endingsAt 0 0 = 0; endingsAt 0 999 = 0
        endingsAt 0 -2 = argument
        endingsAt 0 1000 = argument
        endingsAt 2 -1 = index
        : endAt 0 5 1; endAt 0 6 1; endAt 0 7 2; endAt 1 8 1
        endingsAt 0 1 = 2; endingsAt 0 2 = 1; endingsAt 0 0 = 0; endingsAt 0 3 = 0; endingsAt 1 1 = 1; endingsAt 0 -1 = -9

        # 38 a place, from 0, of all ENDINGS
        ending 0 0 = index
        : endAt 0 5 9
        ending 0 0 = 5; ending 0 1 = index; ending 0 -1 = index; ending 1 0 = index; ending 2 0 = index

        # 39 the MINUTE of its ENDING, or NONE
        endingOf 0 0 = -1
        : endAt 0 0 999; endAt 1 39 1
        endingOf 0 0 = 999; endingOf 1 39 = 1; endingOf 0 39 = -1; endingOf 1 0 = -1; endingOf 0 1 = -1

        # 40 how many WATCHERS are there; 41: the number of the WATCHER there
        watching 0 0 = 0; watcherAt 0 0 0 = index
        : 12x watcher 0 0; watch 11 0 0; watch 0 1 39
        watching 0 0 = 1; watching 1 39 = 1; watching 0 39 = 0; watching 0 1 = 0; watcherAt 0 0 0 = 11; watcherAt 0 0 1 = index; watcherAt 0 0 -1 = index
        watcherAt 1 39 0 = 0; watcherAt 0 1 0 = index; unwatch 11 0 0; watcherAt 0 0 0 = index

        # 42 2 how many WORDS it heard, 3 the sum of all VALUES of these, 4 how many of these said ENDED, 5 BACK
        : watcher 1 39; watch 0 0 5; watch 0 1 5; tick 0 1; tick 1 1
        heard 0 0 = 1; heard 0 1 = 39; heard 0 2 = 0; heard 0 3 = 0; heard 0 4 = 0; heard 0 5 = 0; heard 0 6 = argument; heard 1 6 = index
        tell 0 5 0 0; heard 0 2 = 1; heard 0 3 = 0; tell 1 5 0 99; heard 0 2 = 2; heard 0 3 = 99; end 0 5 1; heard 0 3 = 99; heard 0 4 = 1; heard 0 5 = 0
        tell 0 5 0 7; tick 0 1; takeBack 0 5 0; heard 0 2 = 2; heard 0 3 = 7; heard 0 4 = 0; heard 0 5 = 1
        """;

    private static final String PANES = """
        # 43 5 the least one, 6 the greatest one (for both REFUSED if it has none)
        : tell 0 5 0 1; tell 0 5 999 1; tell 1 39 7 1; window 0 5 0 999; window 0 5 1 998; window 1 39 7 7
        ofWindow 0 4 = 2; ofWindow 0 5 = 0; ofWindow 0 6 = 999; ofWindow 1 4 = 0; ofWindow 1 5 = -9; ofWindow 1 6 = -9
        ofWindow 2 0 = 1; ofWindow 2 1 = 39; ofWindow 2 2 = 7; ofWindow 2 3 = 7; ofWindow 2 4 = 1; ofWindow 2 5 = 7; ofWindow 2 6 = 7
        ofWindow 2 7 = argument; ofWindow 2 -1 = argument; ofWindow 3 7 = index

        # 44 the ANSWER of its KEY, if there were only the PERIODS that it has; minute may be one outside
        : tell 0 5 10 1; tell 0 5 20 2; tell 0 5 30 3; window 0 5 11 29; window 0 5 10 30; window 0 5 20 20; window 0 5 12 12
        windowRead 0 10 0 = -1; windowRead 0 19 0 = -1; windowRead 0 20 0 = 2; windowRead 0 30 0 = 2; windowRead 0 999 0 = 2; windowRead 0 0 0 = -1
        windowRead 1 9 0 = -1; windowRead 1 10 0 = 1; windowRead 1 29 0 = 2; windowRead 1 30 0 = 3; windowRead 1 999 0 = 3
        windowRead 2 19 0 = -1; windowRead 2 20 0 = 2; windowRead 2 999 0 = 2; windowRead 3 999 0 = -1
        tick 0 1; takeBack 0 5 20; windowRead 2 999 1 = -1; windowRead 1 29 1 = 1; windowRead 2 999 0 = 2
        # 44 known is that of its own STORE
        : tell 1 5 10 1; window 1 5 0 999; ticks 0 9; ticks 1 4; forget 1 2
        windowRead 0 0 2 = -1; windowRead 0 999 4 = 1
        windowRead 0 0 1 = state
        windowRead 0 0 5 = state
        windowRead 0 0 9 = state

        # 45 the ANSWER by the LINE that it has
        : tell 0 5 0 1; end 0 5 10; tell 0 5 999 3; snap 0 0; snap 1 0
        snapRead 0 5 0 = 1; snapRead 0 5 9 = 1; snapRead 0 5 10 = -1; snapRead 0 5 998 = -1; snapRead 0 5 999 = 3; snapRead 0 4 999 = -1; snapRead 0 6 999 = -1; snapRead 1 5 999 = -1

        # 46 5, 6, 7 of the ENTRY at the MARK (NONE, if the MARK is ahead of the first)
        : end 0 0 0; tell 0 39 999 99; ticks 0 3; snap 0 3; snap 1 0
        ofSnap 0 0 = 0; ofSnap 0 1 = 3; ofSnap 0 2 = 0; ofSnap 0 3 = 2; ofSnap 0 4 = 2; ofSnap 0 5 = -1; ofSnap 0 6 = -1; ofSnap 0 7 = -1
        snapNext 0 = 0; ofSnap 0 5 = 0; ofSnap 0 6 = 0; ofSnap 0 7 = -1; snapNext 0 = 39; ofSnap 0 5 = 39; ofSnap 0 6 = 999; ofSnap 0 7 = 99
        ofSnap 1 0 = 1; ofSnap 1 3 = 0; ofSnap 1 4 = 0; ofSnap 1 5 = -1; ofSnap 1 8 = argument; ofSnap 2 8 = index

        # 47 how many pairs have an ENTRY in just one of both, or unlike ones; another one, or the same
        : tell 0 5 10 1; tell 0 5 20 2; snap 0 0; tick 0 1; tell 0 5 10 1; tell 0 5 20 3; tell 0 6 20 2; snap 0 1; snap 1 0
        snapDiffer 0 0 = 0; snapDiffer 0 1 = 2; snapDiffer 1 0 = 2; snapDiffer 0 2 = 2; snapDiffer 2 1 = 3; snapDiffer 2 2 = 0
        snapDiffer 0 3 = index; snapDiffer 3 0 = index; snapDiffer -1 3 = index
        : fill 0 120; snap 0 0; snap 1 0; fill 1 120; snap 1 0
        snapDiffer 0 1 = 120; snapDiffer 1 0 = 120; snapDiffer 0 2 = 0; snapDiffer 1 2 = 120
        """;

    private static final String JOURNAL_AND_BOOK = """
        # 48 how many WORDS of the JOURNAL were told not BEHIND it
        journal 0 0 = 0; journal 1 999 = 0
        : tell 0 5 10 1; ticks 0 3; tell 0 5 10 2; tell 0 5 11 2
        journal 0 0 = 1; journal 0 2 = 1; journal 0 3 = 3; journal 0 999 = 3; journal 1 999 = 0; forget 0 3; journal 0 2 = 0; journal 0 3 = 2

        # 49 there is no such place
        entry 0 0 0 = index; entry 0 0 4 = index; entry 2 0 0 = index
        : tell 0 5 0 0; end 0 39 999; ticks 0 7; takeBack 0 5 0
        entry 0 0 0 = 0; entry 0 0 1 = 5; entry 0 0 2 = 0; entry 0 0 3 = 0; entry 0 1 1 = 39; entry 0 1 2 = 999; entry 0 1 3 = -1
        entry 0 2 0 = 7; entry 0 2 3 = -2; entry 0 3 0 = index; entry 0 2 4 = argument; entry 0 2 -1 = argument; entry 1 0 0 = index
        : fill 0 120
        entry 0 119 1 = 39; entry 0 119 2 = 2; entry 0 120 0 = index

        # 50 the ANSWER of what is REBUILT up to known, known then
        rebuiltRead 0 0 999 0 = -1; rebuiltRead 0 0 0 1 = state
        : tell 0 5 10 1; ticks 0 2; end 0 5 10; ticks 0 2; takeBack 0 5 10; forget 0 2
        rebuiltRead 0 5 10 2 = -1; rebuiltRead 0 5 10 4 = -1; rebuiltRead 0 5 10 1 = state; rebuiltRead 0 5 10 5 = state
        tell 0 5 0 9; rebuiltRead 0 5 9 4 = 9; rebuiltRead 0 5 10 4 = 9; rebuiltRead 0 5 10 3 = -1; rebuiltRead 0 5 9 3 = -1
        : fill 0 120
        rebuiltRead 0 39 2 0 = 1; rebuiltRead 0 39 999 0 = 1; rebuiltRead 1 39 999 0 = -1
        # 50 what is REBUILT has nothing of what was joined, REBUILT or gathered ahead of it
        : tell 1 0 0 9; tell 0 0 5 1; tick 0 1; tell 0 0 3 2
        joinedRead 0 0 0 false = 9; rebuiltRead 0 0 4 0 = -1; rebuiltRead 0 0 5 0 = 1; rebuiltRead 0 0 4 1 = 2; rebuiltRead 0 0 4 0 = -1
        rebuiltRead 0 0 4 1 = 2; joinedRead 0 4 0 true = 9; rebuiltRead 1 0 999 0 = 9; joinedRead 0 999 1 false = 1; rebuiltRead 0 0 2 1 = -1

        # 51 the ANSWER of the BOOK, known at any MINUTE; 52: NONE if there is no SPOT
        bookRead 0 999 999 = -1; bookBy 0 999 999 = -1
        : tell 0 5 0 1; end 1 5 10; tell 1 39 999 3; gather 0; gather 1
        bookRead 5 0 0 = 1; bookRead 5 9 999 = 1; bookRead 5 10 0 = -1; bookRead 39 998 0 = -1; bookRead 39 999 0 = 3; bookRead 4 999 999 = -1
        bookBy 5 9 0 = 0; bookBy 5 10 0 = 1; bookBy 5 999 999 = 1; bookBy 39 998 0 = -1; bookBy 39 999 0 = 1; bookBy 38 999 0 = -1
        : ticks 0 3; tell 0 5 10 1; gather 0
        bookRead 5 10 2 = -1; bookBy 5 10 2 = -1; bookRead 5 10 3 = 1; bookBy 5 10 3 = 0; bookRead 5 10 999 = 1

        # 53 0 how many WORDS, 1 about how many KEYS, 2 how many from STORE 0, 3 from STORE 1
        : tell 0 0 0 1; tell 0 39 0 1; tell 0 39 1 1; tell 1 39 0 1; gather 0
        ofBook 0 = 3; ofBook 1 = 2; ofBook 2 = 3; ofBook 3 = 0; gather 1; ofBook 0 = 4; ofBook 1 = 2; ofBook 3 = 1; ofBook 4 = argument; ofBook -1 = argument

        # 54 the ANSWER of an empty BOOK into which both were gathered; that of the BOOK does not count
        : tell 0 5 10 1; gather 0; ticks 0 2; tell 0 5 10 2; forget 0 2; tell 1 5 10 3
        joinedRead 5 10 0 false = 3; joinedRead 5 10 0 true = 3; joinedRead 5 10 1 false = 3; joinedRead 5 10 2 true = 2; joinedRead 5 10 999 false = 2
        joinedRead 5 9 999 true = -1; joinedRead 4 999 999 true = -1; ofBook 0 = 1

        # 55 how many WORDS there are then
        joinedWords 0 = 0; joinedWords 1 = 0; joinedWords 2 = 0; joinedWords 3 = argument; joinedWords -1 = argument
        : tell 0 0 0 1; gather 0
        joinedWords 0 = 1; joinedWords 1 = 1; joinedWords 2 = 1; tell 1 0 0 1; joinedWords 0 = 2; joinedWords 1 = 2; joinedWords 2 = 2
        joinedWords 2 = 1; joinedWords 0 = 1; joinedWords 1 = 1
        tell 1 0 0 1; joinedWords 2 = 2; tell 1 0 1 1; joinedWords 1 = 3; tell 0 0 1 1; joinedWords 0 = 4
        : tell 0 0 0 1; tick 0 1; gather 0; tell 0 0 0 2; tell 1 0 0 3; forget 0 1
        joinedWords 2 = 3; joinedWords 0 = 2; joinedWords 1 = 3; joinedWords 0 = 2
        """;

    private static final String ALL = """
        # 56 2 about how many KEYS it has WORDS, 3 how many WORDS, 5 how many it MISSED ever, 6 how many left ever
        : fill 0 120; watcher 1 5; watch 0 0 0
        ofStore 0 2 = 40; ofStore 0 3 = 120; ofStore 0 5 = 0; ofStore 0 7 = argument; ofStore 0 -1 = argument
        : tell 0 0 0 1; tick 0 1; takeBack 0 0 0; tell 0 39 0 1
        ofStore 0 2 = 2; ofStore 0 3 = 3; forget 0 1; ofStore 0 2 = 2; ofStore 0 3 = 2; ofStore 0 6 = 1; ofStore 1 6 = 0; tick 0 1; tell 0 39 0 1; forget 0 2; ofStore 0 6 = 2
        : watcher 1 5; watch 0 0 5
        tell 0 5 0 1; ofStore 0 5 = 1; tell 0 5 1 1; ofStore 0 5 = 2; ofStore 1 5 = 0

        # 57 0 how many WATCHERS, 1 WINDOWS, 2 SNAPSHOTS there are, 3 how many knocked ever, 4 how many WORDS were TOLD ever
        : 12x watcher 0 0; tell 0 0 0 1; 6x window 0 0 0 1; 6x snap 0 0; 7x knock
        house 0 = 12; house 1 = 6; house 2 = 6; house 3 = 7; house 4 = 1; house 5 = argument; house -1 = argument
        shut 0; drop 0; drop 0; house 1 = 5; house 2 = 4; tick 0 1; tell 0 0 0 1; forget 0 1; house 4 = 2; endAt 0 9 5; tick 0 9; house 4 = 3

        # 58 how many WORDS a SPAN has; REFUSED if it MAY not be told
        wouldSpan 0 0 0 1 = 2; wouldSpan 1 39 998 999 = 2; wouldSpan 0 0 0 999 = 2; ofStore 0 3 = 0
        wouldSpan 0 0 998 998 = argument
        wouldSpan 0 0 999 1000 = argument
        wouldSpan 0 0 10 9 = argument
        : tell 0 5 10 1; tell 0 5 20 2
        wouldSpan 0 5 10 11 = -9; wouldSpan 0 5 9 11 = -9; wouldSpan 0 5 9 10 = 1; wouldSpan 0 5 11 20 = 1; wouldSpan 0 5 11 19 = 2; wouldSpan 0 5 11 21 = -9
        tick 0 1; wouldSpan 0 5 10 20 = 1; wouldSpan 0 5 9 21 = 4; wouldSpan 0 5 9 20 = 2; takeBack 0 5 20; wouldSpan 0 5 10 20 = -9; wouldSpan 0 5 10 21 = 2
        : fill 0 118
        wouldSpan 0 39 100 200 = 2; tell 0 39 500 1; wouldSpan 0 39 100 200 = -9; tick 0 1; wouldSpan 0 38 0 1 = 1
        : fill 0 120; tick 0 1
        wouldSpan 0 38 0 1 = -9; wouldSpan 1 38 0 1 = 2; wouldSpan 0 38 1 1 = argument

        # 59 how many WORDS would leave
        wouldForget 0 0 = 0; wouldForget 0 1 = state
        : tell 0 5 10 1; ticks 0 2; tell 0 5 10 2; ticks 0 2
        wouldForget 0 0 = 0; wouldForget 0 1 = 0; wouldForget 0 2 = 1; wouldForget 0 4 = 1; wouldForget 0 5 = state; wouldForget 1 0 = 0; ofStore 0 1 = 0; ofStore 0 6 = 0
        forget 0 2; wouldForget 0 2 = 0; wouldForget 0 1 = state

        # 60 isSound() of what is empty, full, at the last MINUTE, forgotten
        isSound = true
        : fill 0 120; fill 1 120; gather 0; gather 1
        isSound = true; ticks 0 1; isSound = true; forget 0 1; isSound = true
        : ticks 0 999; ticks 1 998; tell 0 5 999 1; tell 1 39 0 1; endAt 1 5 999; window 0 5 0 999; snap 0 999; snap 0 998
        isSound = true; tick 1 1; isSound = true; takeBack 0 5 999 = state; forget 0 999; isSound = true
        : tell 0 5 10 1; tick 0 2; tell 0 5 10 2; snap 0 1; snap 0 0; snap 0 2; tell 0 5 9 3
        isSound = true; forget 0 1; isSound = true; forget 0 2; isSound = true; emptyBook; isSound = true
        # 60 what the BOOK has and the STORES do not, and what lies beside that which is asked of, is no fault
        : tell 0 5 10 1; gather 0; tick 0 1; tell 0 5 10 2; forget 0 1
        isSound = true; tell 1 5 10 3; isSound = true; gather 1; isSound = true
        : tell 0 0 5 1; tell 0 0 6 2; tick 0 1; takeBack 0 0 6; tell 0 1 5 2
        isSound = true; tell 0 1 6 3; tell 0 2 0 4; isSound = true; tick 0 1; forget 0 1; isSound = true
        : tell 0 0 5 1; tick 0 1; tell 0 1 5 2
        isSound = true; tell 1 1 5 2; isSound = true
        : tell 0 4 10 1; tell 0 5 10 1; tell 0 5 20 1; tick 0 1; tell 0 5 10 2; tell 0 6 10 1; tell 1 5 10 1; window 0 5 5 15; window 0 5 0 999
        isSound = true; window 0 5 11 19; window 1 5 10 10; isSound = true; shut 0; isSound = true; 3x shut 0; isSound = true
        # 60 a WINDOW that is shut and a SNAPSHOT that is dropped are not asked of any more
        : tell 0 5 10 1; tick 0 1; window 0 5 0 999; snap 0 0; shut 0; drop 0; tick 0 1; tell 0 5 20 1; tell 1 5 0 1
        isSound = true; window 1 5 0 0; snap 1 0; isSound = true
        : ticks 0 5; 6x snap 0 4; tell 0 5 10 1; 6x window 0 5 0 999; tick 0 1; tell 0 5 11 1
        isSound = true; snap 0 3 = state; forget 0 5; isSound = true; 6x drop 0; snap 0 5; isSound = true
        """;
}
