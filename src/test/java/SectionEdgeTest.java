/**
 * The edges that sections 1 to 7 of the document name, sentence by sentence: each with a row on this side
 * of it and one on the other. The number is that of a promise which it is seen by.
 */
final class SectionEdgeTest {
    public static void main(String[] args) {
        Rows.check(WORDS);
        Rows.check(READING);
        Rows.check(LISTENING);
        Rows.check(SPANS);
        Rows.check(ENDINGS);
        Rows.check(WINDOWS);
        Rows.check(SNAPSHOTS);
        Rows.check(FORGETTING);
        Rows.check(JOINING);
        Check.finish();
    }

    private static final String WORDS = """
        # 56 1: each STORE has a CLOCK, a MINUTE (0 at first), which goes on only
        ofStore 0 0 = 0; ofStore 1 0 = 0; tick 0 1 = 0; ofStore 0 0 = 1; ofStore 1 0 = 0
        ticks 1 999; ofStore 1 0 = 999; ofStore 0 0 = 0; tick 1 1 = state; ofStore 1 0 = 999
        tick 0 5; tick 0 -1 = argument; tick 0 0 = argument; ofStore 0 0 = 5

        # 35 1: about one KEY and PERIOD at most one WORD is told at one MINUTE of a STORE
        : tell 0 5 10 1
        tell 0 5 10 2 = state
        end 0 5 10 = state
        takeBack 0 5 10 = state
        tell 0 5 9 2 = 1; tell 0 5 11 2 = 1
        tell 0 4 10 2 = 1; tell 0 6 10 2 = 1
        tell 1 5 10 2 = 1; tell 1 5 10 2 = state
        tick 0 1; tell 0 5 10 2 = 1; tell 0 5 10 2 = state; words 0 5 10 = 2
        tick 1 1; tell 0 5 10 2 = state; tell 1 5 10 2 = 1; word 1 5 10 0 0 = 1

        # 2 1: no STORE has more than 120 WORDS; it MAY tell one if it has fewer
        : fill 0 119; tick 0 1
        ofStore 0 3 = 119; tell 0 7 900 1 = 1; ofStore 0 3 = 120; tell 0 7 901 1 = state
        end 0 7 900 = 1; end 0 7 901 = state
        takeBack 0 7 1 = 1; takeBack 0 7 2 = state
        : fill 0 120; tick 0 1
        tell 0 7 0 1 = state
        end 0 7 0 = state
        takeBack 0 7 0 = state
        tellSpan 0 7 0 1 1 = state
        tell 1 7 0 1 = 1
        ofStore 0 3 = 120; journal 0 999 = 120; entry 0 119 1 = 39; entry 0 120 1 = index
        # 2 1: the 120 are of each STORE by itself
        : fill 0 120; fill 1 119
        tell 1 7 900 1 = 1; tell 1 7 901 1 = state; ofStore 1 3 = 120
        # 2 1: an argument's exception goes ahead of that of a full STORE
        : fill 0 120
        tell 2 0 0 1 = index
        tell 0 40 0 1 = index
        tell 0 0 1000 1 = argument
        tell 0 0 0 100 = argument

        # 5 1: it MAY tell BACK, if there is a LATEST of both, known at the CLOCK, that does not say BACK
        : tell 0 5 10 1; end 0 5 20; tick 0 1
        takeBack 0 5 10 = 1; takeBack 0 5 20 = 1; line 0 5 1 = ""
        takeBack 0 5 9 = state
        takeBack 0 5 11 = state
        takeBack 0 4 10 = state
        takeBack 1 5 10 = state
        takeBack 0 5 10; takeBack 0 5 10 = state
        takeBack 0 5 10; tick 0 1; takeBack 0 5 10 = state; tell 0 5 10 3 = 1; takeBack 0 5 10 = state
        takeBack 0 5 10; tick 0 1; end 0 5 10 = 1; tick 0 1; takeBack 0 5 10 = 1

        # 25 1: the least KEY, PERIOD, MINUTE and VALUE, and the greatest ones, as the only WORD
        : tell 0 0 0 0
        read 0 0 0 0 = 0; line 0 0 0 = "0:0"; bound 0 0 0 false = 0; bound 0 0 0 true = 0; spotOf 0 0 0 0 0 = 0; spotOf 0 0 0 0 2 = 1000
        wouldForget 0 0 = 0; forget 0 0 = 0; words 0 0 0 = 1; rebuiltRead 0 0 0 0 = 0; joinedRead 0 0 0 true = 0
        gather 0 = 1; bookRead 0 0 0 = 0; bookBy 0 0 0 = 0; ofBook 1 = 1; gather 0 = 0; joinedWords 0 = 1; joinedWords 1 = 1; joinedWords 2 = 1
        window 0 0 0 0 = 0; ofWindow 0 4 = 1; windowRead 0 0 0 = 0; snap 0 0 = 0; ofSnap 0 4 = 1; snapRead 0 0 0 = 0; snapNext 0 = 0; isSound = true
        tick 0 1; takeBack 0 0 0; read 0 0 0 1 = -1; forget 0 1 = 1; line 0 0 1 = ""; ofStore 0 2 = 1; isSound = true
        : ticks 1 999; tell 1 39 999 99
        read 1 39 999 999 = 99; read 1 39 998 999 = -1; read 1 39 999 998 = -1; line 1 39 999 = "999:99"; bound 1 39 999 true = 999; spotOf 1 39 999 999 2 = 1000
        wouldForget 1 999 = 0; forget 1 999 = 0; words 1 39 999 = 1; rebuiltRead 1 39 999 999 = 99; joinedRead 39 999 999 false = 99; joinedRead 39 999 998 false = -1
        gather 1 = 1; bookRead 39 999 999 = 99; bookRead 39 999 998 = -1; bookBy 39 999 999 = 1; ofBook 3 = 1; joinedWords 2 = 1
        window 1 39 999 999 = 0; ofWindow 0 4 = 1; windowRead 0 999 999 = 99; snap 1 999 = 0; snapRead 0 39 999 = 99; snapNext 0 = 39; isSound = true

        # 27 1: the LATEST, known at a MINUTE: told not BEHIND that MINUTE, which was told last
        : tick 0 3; tell 0 5 10 1; tick 0 3; tell 0 5 10 2; tick 0 3
        spotOf 0 5 10 2 1 = -1; spotOf 0 5 10 3 1 = 3; spotOf 0 5 10 5 1 = 3; spotOf 0 5 10 6 1 = 6
        read 0 5 10 2 = -1; read 0 5 10 3 = 1; read 0 5 10 5 = 1; read 0 5 10 6 = 2; read 0 5 10 9 = 2
        """;

    private static final String READING = """
        # 29 2: a PERIOD STANDS if there is a LATEST known then, and this does not say BACK
        : tick 0 1; tell 0 5 10 1; end 0 5 20; tick 0 2; takeBack 0 5 10; tick 0 2; tell 0 5 10 7; takeBack 0 5 20
        line 0 5 0 = ""; line 0 5 1 = "10:1 20:x"; line 0 5 2 = "10:1 20:x"; line 0 5 3 = "20:x"
        line 0 5 4 = "20:x"; line 0 5 5 = "10:7"

        # 27 2: the SPOT is the greatest PERIOD of the LINE that is not BEHIND the MINUTE; there may be none
        : tell 0 5 10 1; tell 0 5 12 2; tell 0 5 0 3; tell 0 6 999 4; tell 0 4 998 5
        spotOf 0 5 9 0 0 = 0; spotOf 0 5 10 0 0 = 10; spotOf 0 5 11 0 0 = 10; spotOf 0 5 12 0 0 = 12
        spotOf 0 5 0 0 0 = 0; spotOf 0 5 999 0 0 = 12
        spotOf 0 6 998 0 0 = -1; spotOf 0 6 999 0 0 = 999; spotOf 0 4 997 0 0 = -1; spotOf 0 4 998 0 0 = 998
        spotOf 0 7 999 0 0 = -1; spotOf 0 3 999 0 0 = -1

        # 25 2: the ANSWER is NONE if it has ENDED, or there is no SPOT
        : tell 0 5 10 0; end 0 5 20; tell 0 5 30 99
        read 0 5 9 0 = -1; read 0 5 10 0 = 0; read 0 5 19 0 = 0; read 0 5 20 0 = -1; read 0 5 29 0 = -1
        read 0 5 30 0 = 99; read 0 5 999 0 = 99; read 0 4 999 0 = -1; read 0 6 999 0 = -1; read 1 5 999 0 = -1

        # 25 2: a MINUTE is KNOWN if it is the HORIZON (0 at first) or BEHIND it, and the CLOCK or AHEAD of it
        read 0 0 0 0 = -1
        read 0 0 0 1 = state
        : ticks 0 9; ticks 1 4
        read 0 0 0 0 = -1; read 0 0 0 9 = -1; read 0 0 0 10 = state
        read 1 0 0 4 = -1; read 1 0 0 5 = state
        : ticks 0 9; ticks 1 4; forget 0 6
        read 0 0 0 6 = -1; read 0 0 0 9 = -1
        read 0 0 0 5 = state
        read 0 0 0 10 = state
        read 1 0 0 0 = -1
        : ticks 0 9; forget 0 9
        read 0 0 0 9 = -1
        read 0 0 0 8 = state
        : ticks 0 999
        read 0 0 0 999 = -1; read 0 0 0 0 = -1; read 0 0 0 1000 = argument
        """;

    private static final String LISTENING = """
        # 49 3: a WORD is TOLD: told at the CLOCK, it lies there from now on, last in the JOURNAL
        : tell 0 5 10 1; tick 0 999 = argument; ticks 0 999; tell 0 5 10 2
        entry 0 0 0 = 0; entry 0 1 0 = 999; entry 0 1 3 = 2; entry 0 2 0 = index; read 0 5 10 998 = 1; read 0 5 10 999 = 2

        # 10 3: WATCHERS: at most 12, numbered from 0
        watcher 0 0 = 0; watcher 1 1 = 1; house 0 = 2
        : 11x watcher 0 0
        watcher 3 39 = 11; house 0 = 12; heard 11 0 = 3; heard 12 0 = index
        : 12x watcher 0 0
        watcher 0 0 = state
        watcher 3 39 = state
        watcher 4 0 = argument
        watcher 0 40 = argument
        heard 0 0 = 0; heard 11 0 = 0; heard 12 0 = index

        # 42 3: all count what they hear, from when they come to a KEY until they leave it
        : watcher 0 0; tell 0 5 10 9; watch 0 0 5
        heard 0 2 = 0; tell 0 5 11 8 = 1; heard 0 2 = 1; heard 0 3 = 8
        tell 1 5 10 8; tell 0 4 10 8; tell 0 6 10 8; heard 0 2 = 0
        tell 0 5 11 8; unwatch 0 0 5; tell 0 5 12 7; heard 0 2 = 1; heard 0 3 = 8
        tell 0 5 11 99; end 0 5 12; tick 0 1; takeBack 0 5 11; heard 0 2 = 3; heard 0 3 = 99; heard 0 4 = 1; heard 0 5 = 1
        # 42 3: what is refused is not heard, what is MISSED neither
        : watcher 0 0; watcher 1 5; watch 0 0 5; watch 1 0 5
        tell 0 5 10 3 = 1; heard 0 2 = 1; heard 1 2 = 1; ofStore 0 5 = 1; tell 0 5 10 4 = state; heard 0 2 = 1

        # 10 3: KIND 0 does no more
        : watcher 0 7; watch 0 0 5
        tell 0 5 10 1 = 1; house 4 = 1; ofStore 0 4 = 0; ofStore 0 5 = 0; ofStore 1 5 = 0

        # 10 3: KIND 1 wants the same of the KEY with its NUMBER in the same STORE
        : watcher 1 0; watcher 1 39; watch 0 0 5; watch 1 1 5
        tell 0 5 10 1 = 2; line 0 0 0 = "10:1"; line 0 39 0 = ""; line 1 0 0 = ""
        tell 1 5 10 1 = 2; line 1 39 0 = "10:1"; line 1 0 0 = ""; line 0 39 0 = ""
        end 0 5 10 = 2; line 0 0 0 = "10:x"

        # 10 3: KIND 2 wants the same of the same KEY in the other STORE
        : watcher 2 7; watch 0 0 5; watch 0 1 6; tick 1 3
        tell 0 5 10 1 = 2; line 1 5 3 = "10:1"; line 1 5 2 = ""; line 1 7 3 = ""
        tell 1 6 10 1 = 2; line 0 6 0 = "10:1"; line 0 7 0 = ""
        # 10 3: two of KIND 2 end when the first STORE has told it at its CLOCK already
        : watcher 2 0; watcher 2 0; watch 0 0 5; watch 1 1 5
        tell 0 5 10 1 = 2; ofStore 0 5 = 1; ofStore 1 5 = 0

        # 10 3: KIND 3, if a VALUE is said
        : watcher 3 0; watch 0 0 5
        tell 0 5 10 0; endingOf 0 5 = 1
        end 0 5 10; endingOf 0 5 = -1
        tell 0 5 10 1; endNever 0 5; tick 0 1; takeBack 0 5 10 = 1; endingOf 0 5 = -1
        # 10 3: KIND 3, if CLOCK + NUMBER + 1 is 999 at most
        : watcher 3 39; watch 0 0 5; watcher 3 0; watch 1 0 6
        ticks 0 958; tell 0 5 10 1; endingOf 0 5 = 998
        ticks 0 959; tell 0 5 10 1; endingOf 0 5 = 999
        ticks 0 960; tell 0 5 10 1; endingOf 0 5 = -1; endingsAt 0 999 = 0
        ticks 0 997; tell 0 6 10 1; endingOf 0 6 = 998
        ticks 0 998; tell 0 6 10 1; endingOf 0 6 = 999; tick 0 1 = 1; line 0 6 999 = "10:1 999:x"
        ticks 0 999; tell 0 6 10 1; endingOf 0 6 = -1
        # 10 3: beyond 999 the ENDING that the KEY had stays
        : watcher 3 39; watch 0 0 5; ticks 0 960; endAt 0 5 970
        tell 0 5 10 1; endingOf 0 5 = 970
        # 10 3: CLOCK is that of the STORE in which it hears, and the ENDING is told there
        : watcher 3 4; watcher 2 0; watch 1 0 5; watch 0 1 5; ticks 1 10
        tell 0 5 20 1 = 2; endingOf 1 5 = 15; endingOf 0 5 = -1

        # 2 3: an act first has its own WORDS TOLD, then the row is worked off from its front
        : watcher 1 1; watcher 1 2; watcher 1 3; watch 0 0 0; watch 1 0 0; watch 2 0 1
        tell 0 0 5 9 = 4; entry 0 0 1 = 0; entry 0 1 1 = 1; entry 0 2 1 = 2; entry 0 3 1 = 3
        # 2 3: WATCHERS hear in the order in which they came to the KEY
        : watcher 1 1; watcher 1 2; watch 1 0 0; watch 0 0 0
        tell 0 0 5 9 = 3; entry 0 1 1 = 2; entry 0 2 1 = 1

        # 56 3: what the STORE MAY not tell, the STORE of that WORD has MISSED
        : fill 1 119; watcher 2 0; watch 0 0 5
        tell 0 5 900 1 = 2; ofStore 1 5 = 0; ofStore 1 3 = 120; tell 0 5 901 1 = 1; ofStore 1 5 = 1; ofStore 0 5 = 0
        : fill 0 118; watcher 1 1; watch 0 0 5
        tell 0 5 900 1 = 2; ofStore 0 5 = 0; ofStore 0 3 = 120
        : fill 0 119; watcher 1 1; watch 0 0 5
        tell 0 5 900 1 = 1; ofStore 0 5 = 1; ofStore 0 3 = 120
        : watcher 2 0; watch 0 0 5; tell 1 5 10 3
        tell 0 5 10 1 = 1; ofStore 1 5 = 1; line 1 5 0 = "10:3"
        tick 1 1; tell 0 5 10 1 = 2; ofStore 1 5 = 0; line 1 5 1 = "10:1"
        : tell 0 5 10 1; watcher 2 0; watch 0 0 5; ticks 0 1
        takeBack 0 5 10 = 1; ofStore 1 5 = 1; ofStore 0 5 = 0
        tell 1 5 10 1; takeBack 0 5 10 = 1; ofStore 1 5 = 1
        tell 1 5 10 1; tick 1 1; takeBack 0 5 10 = 2; ofStore 1 5 = 0
        tell 1 5 10 1; tick 1 1; takeBack 1 5 10; tick 1 1; takeBack 0 5 10 = 1; ofStore 1 5 = 1
        # 56 3: what an act that throws would have wanted is not MISSED
        : fill 0 120; watcher 2 0; watch 0 0 5; fill 1 120
        tell 0 5 900 1 = state; ofStore 0 5 = 0; ofStore 1 5 = 0
        """;

    private static final String SPANS = """
        # 3 3: one with the VALUE about the first MINUTE, also if that is a PERIOD that STANDS
        : tell 0 5 10 1; tell 0 5 20 2; tick 0 1
        tellSpan 0 5 10 20 9 = 1; line 0 5 1 = "10:9 20:2"; words 0 5 10 = 2; words 0 5 20 = 1

        # 3 3: BACK about each PERIOD BEHIND the first and AHEAD of the last MINUTE that STANDS
        : tell 0 5 10 1; tell 0 5 20 2; tick 0 1
        tellSpan 0 5 9 19 9 = 3; line 0 5 1 = "9:9 19:1 20:2"; entry 0 2 2 = 9; entry 0 3 2 = 10; entry 0 3 3 = -2; entry 0 4 2 = 19
        : tell 0 5 10 1; tell 0 5 11 2; tell 0 5 19 3; tell 0 5 20 4; tell 0 5 21 5; tell 0 5 9 6; tick 0 1
        tellSpan 0 5 10 20 7 = 3; line 0 5 1 = "9:6 10:7 20:4 21:5"
        entry 0 6 2 = index; tellSpan 0 5 10 20 7 = 3; entry 0 6 2 = 10; entry 0 7 2 = 11; entry 0 8 2 = 19
        tellSpan 0 5 11 19 7 = 1; line 0 5 1 = "9:6 10:1 11:7 19:3 20:4 21:5"
        tellSpan 0 5 8 22 7 = 8; line 0 5 1 = "8:7 22:5"
        # 3 3: a PERIOD that was taken back STANDS no more
        : tell 0 5 15 1; tick 0 1; takeBack 0 5 15; tick 0 1
        tellSpan 0 5 10 20 7 = 2; words 0 5 15 = 2; line 0 5 2 = "10:7 20:x"
        # 3 3: one that has ENDED STANDS
        : end 0 5 15; tick 0 1
        tellSpan 0 5 10 20 7 = 3; word 0 5 15 1 1 = -2; line 0 5 1 = "10:7 20:x"

        # 3 3: if the last MINUTE is no PERIOD that STANDS, one about it that says what the LINE has at its SPOT
        : tell 0 5 10 1; tell 0 5 20 2; tick 0 1
        tellSpan 0 5 5 21 7 = 4; line 0 5 1 = "5:7 21:2"
        tellSpan 0 5 5 20 7 = 2; line 0 5 1 = "5:7 20:2"
        tellSpan 0 5 5 19 7 = 3; line 0 5 1 = "5:7 19:1 20:2"
        # 3 3: ENDED if there is no SPOT; what the LINE has may be ENDED, too
        :
        tellSpan 0 5 10 20 7 = 2; line 0 5 0 = "10:7 20:x"
        : end 0 5 4; tick 0 1
        tellSpan 0 5 10 20 7 = 2; line 0 5 1 = "4:x 10:7 20:x"
        # 3 3: all this is as it was ahead of the act: the VALUE at the first MINUTE is the old one
        : tell 0 5 10 1; tick 0 1
        tellSpan 0 5 10 20 7 = 2; line 0 5 1 = "10:7 20:1"

        # 3 3: a SPAN MAY be told, if the STORE MAY tell each of its WORDS
        : tell 0 5 10 1; tell 0 5 20 2
        tellSpan 0 5 10 30 7 = state
        tellSpan 0 5 9 30 7 = state
        tellSpan 0 5 20 21 7 = state
        tellSpan 0 5 19 21 7 = state
        tellSpan 0 5 19 20 7 = 1
        tellSpan 0 5 9 10 7 = 1
        tellSpan 0 5 11 20 7 = 1
        tellSpan 0 5 21 22 7 = 2
        # 3 3: the one about the last MINUTE: told at the CLOCK, it must not be due
        : tell 0 5 20 2; tick 0 1; takeBack 0 5 20
        tellSpan 0 5 10 20 7 = state
        tellSpan 0 5 10 21 7 = 2
        tellSpan 0 5 10 19 7 = 2
        tellSpan 0 5 20 21 7 = state
        # 3 3: the one about a later PERIOD is refused, and no earlier one is TOLD
        : tell 0 5 10 1; tick 0 1; tell 0 5 20 2; watcher 2 0; watch 0 0 5
        tellSpan 0 5 5 30 7 = state; line 0 5 1 = "10:1 20:2"; heard 0 2 = 0; house 4 = 2

        # 3 3: a SPAN MAY be told, if the STORE has no more than 120 with all of its WORDS
        : fill 0 118
        tellSpan 0 39 100 200 7 = 2; ofStore 0 3 = 120
        : fill 0 119
        tellSpan 0 38 100 200 7 = state
        tick 0 1; tellSpan 0 38 0 1 7 = 1; ofStore 0 3 = 120
        tick 0 1; tellSpan 0 38 1 2 7 = 1; tellSpan 0 38 0 1 7 = state
        : fill 0 116; tick 0 1
        tellSpan 0 0 0 3 7 = 4; ofStore 0 3 = 120; line 0 0 1 = "0:7 3:1"
        : fill 0 117; tick 0 1
        tellSpan 0 0 0 3 7 = state
        tellSpan 0 0 0 2 7 = 2
        tellSpan 0 0 1 3 7 = 3; ofStore 0 3 = 120
        wouldSpan 0 0 0 3 = -9; wouldSpan 0 0 1 3 = 3
        # 3 3: the other STORE's 120 do not matter; what it is wanted to tell then is MISSED
        : fill 1 120; watcher 2 0; watch 0 0 5
        tellSpan 0 5 100 200 7 = 2; ofStore 1 5 = 2; ofStore 0 5 = 0
        # 3 3: what the own WORDS make wanted does not count to the 120, and is MISSED when they are full
        : fill 0 117; watcher 1 1; watch 0 0 5
        tellSpan 0 5 100 200 7 = 3; ofStore 0 5 = 1; ofStore 0 3 = 120
        """;

    private static final String ENDINGS = """
        # 8 4: a KEY of a STORE has at most one ENDING, a MINUTE BEHIND the CLOCK
        : ticks 0 5
        endAt 0 5 6 = -1; endAt 0 5 999 = 6; ofStore 0 4 = 1; endingsAt 0 6 = 0; endingsAt 0 999 = 1
        endAt 0 5 5 = state
        endAt 0 5 4 = state
        endAt 1 5 1 = -1; endAt 1 5 0 = state
        : ticks 0 998
        endAt 0 5 999 = -1; endAt 0 5 998 = state
        : ticks 0 999
        endAt 0 5 999 = state

        # 38 4: ENDINGS stand by rising MINUTES, within a MINUTE in the order in which they were told
        : endAt 0 3 50; endAt 0 1 50; endAt 0 2 49; endAt 0 0 51
        ending 0 0 = 2; ending 0 1 = 3; ending 0 2 = 1; ending 0 3 = 0; ending 0 4 = index; nextEnding 0 = 49
        # 38 4: one told again for the same MINUTE keeps its place
        : endAt 0 3 50; endAt 0 1 50; endAt 0 2 49; endAt 0 0 51
        endAt 0 3 50 = 50; ending 0 1 = 3; ending 0 2 = 1; ofStore 0 4 = 4
        endAt 0 1 50 = 50; ending 0 1 = 3; ending 0 2 = 1
        # 38 4: one told for another MINUTE leaves its place and stands last there
        : endAt 0 3 50; endAt 0 1 50; endAt 0 2 49; endAt 0 0 51
        endAt 0 2 50 = 49; ending 0 0 = 3; ending 0 1 = 1; ending 0 2 = 2; ending 0 3 = 0; nextEnding 0 = 50
        endAt 0 0 50 = 51; ending 0 1 = 3; ending 0 2 = 1; ending 0 3 = 0
        endAt 0 3 51 = 50; ending 0 1 = 1; ending 0 2 = 0; ending 0 3 = 3
        endAt 0 3 49 = 50; endAt 0 3 50 = 49; ending 0 1 = 1; ending 0 2 = 3
        # 38 4: as KIND 3 tells one, the same holds
        : watcher 3 4; watch 0 0 3; endAt 0 3 5; endAt 0 1 5
        tell 0 3 0 1; ending 0 0 = 3; ending 0 1 = 1
        tick 0 1; endAt 0 1 6; tell 0 3 0 1; ending 0 0 = 1; ending 0 1 = 3; endingOf 0 3 = 6

        # 7 4: as long as there are ENDINGS not BEHIND the goal
        : endAt 0 3 5; endAt 0 1 6; endAt 0 2 7
        tick 0 4 = 0; ofStore 0 4 = 3; words 0 3 5 = 0
        tick 0 5 = 1; ofStore 0 4 = 2; words 0 3 5 = 1; words 0 1 6 = 0; ofStore 0 0 = 5
        tick 0 6 = 2; tick 0 1 = 1; tick 0 1 = 0
        tick 0 200 = 3; ofStore 0 0 = 200; entry 0 0 0 = 5; entry 0 1 0 = 6; entry 0 2 0 = 7; entry 0 2 2 = 7
        tick 1 200 = 0; ofStore 0 4 = 3
        : ticks 0 799; endAt 0 5 999
        tick 0 199 = 0; tick 0 1 = 1; line 0 5 999 = "999:x"
        tick 0 200 = 1; ofStore 0 0 = 999
        tick 0 201 = argument
        # 7 4: a tick beyond 999 is refused ahead of any ENDING
        : ticks 0 800; endAt 0 5 801
        tick 0 200 = state; ofStore 0 4 = 1
        tick 0 199 = 1

        # 7 4: the WORD that says ENDED is TOLD, if the STORE MAY, and else MISSED
        : fill 0 119; endAt 0 5 4; endAt 0 6 4
        tick 0 3 = 0; ofStore 0 5 = 0
        tick 0 4 = 2; ofStore 0 5 = 1; ofStore 0 3 = 120; words 0 5 4 = 1; words 0 6 4 = 0; ofStore 0 4 = 0
        : fill 0 120; endAt 0 5 4
        tick 0 4 = 1; ofStore 0 5 = 1; ofStore 0 4 = 0; endingOf 0 5 = -1; house 4 = 120
        : fill 0 118; endAt 0 5 4; endAt 0 6 4
        tick 0 4 = 2; ofStore 0 5 = 0
        # 7 4: all ENDINGS of this MINUTE are gone first, then the row of what is wanted is worked off
        : watcher 1 9; watch 0 0 5; endAt 0 5 4; endAt 0 6 4; endAt 0 9 4
        tick 0 9 = 3; entry 0 0 1 = 5; entry 0 1 1 = 6; entry 0 2 1 = 9; ofStore 0 5 = 1; ofStore 0 3 = 3
        : watcher 1 9; watch 0 0 5; endAt 0 5 4; endAt 0 9 5
        tick 0 9 = 2; entry 0 1 1 = 9; entry 0 1 0 = 4; entry 0 2 1 = 9; entry 0 2 0 = 5; ofStore 0 5 = 0
        # 7 4: what is wanted of the other STORE is TOLD at its own CLOCK
        : watcher 2 0; watch 0 0 5; endAt 0 5 4; ticks 1 2
        tick 0 9 = 1; word 1 5 4 0 0 = 2; word 1 5 4 0 1 = -1; ofStore 1 0 = 2
        """;

    private static final String WINDOWS = """
        # 13 5: WINDOWS: at most 6, numbered from 0
        : tell 0 5 10 1
        window 0 5 0 999 = 0; window 0 5 0 999 = 1; house 1 = 2
        5x window 0 5 0 999; window 0 5 1 2 = 5; house 1 = 6; window 0 5 1 2 = state; ofWindow 5 2 = 1; ofWindow 6 2 = index
        6x window 0 5 0 999; window 0 5 9 8 = state; window 0 40 0 1 = index; window 0 5 0 1000 = argument
        6x window 0 5 0 999; shut 5 = 5; window 0 5 1 2 = 5

        # 16 5: if one is shut, those with greater numbers are one less
        : tell 0 5 10 1; window 0 5 0 90; window 0 5 1 91; window 0 5 2 92; window 0 5 3 93
        shut 0 = 3; ofWindow 0 2 = 1; ofWindow 1 2 = 2; ofWindow 2 3 = 93; ofWindow 3 2 = index
        shut 1 = 3; ofWindow 0 2 = 0; ofWindow 1 2 = 2; ofWindow 2 2 = 3; ofWindow 3 2 = index
        shut 3 = 3; ofWindow 0 2 = 0; ofWindow 1 2 = 1; ofWindow 2 2 = 2; ofWindow 3 2 = index
        shut 4 = index
        4x shut 0; house 1 = 0; shut 0 = index
        shut 1; window 0 5 7 8 = 3; ofWindow 3 2 = 7; ofWindow 2 2 = 3

        # 43 5: from one MINUTE to another one, which both belong to it
        : tell 0 5 10 1; tell 0 5 20 2; tell 0 4 15 1; tell 0 6 15 1; tell 1 5 15 1
        window 0 5 10 20; ofWindow 0 4 = 2; ofWindow 0 5 = 10; ofWindow 0 6 = 20
        window 0 5 11 20; ofWindow 0 4 = 1; ofWindow 0 5 = 20; ofWindow 0 6 = 20
        window 0 5 10 19; ofWindow 0 4 = 1; ofWindow 0 5 = 10; ofWindow 0 6 = 10
        window 0 5 11 19; ofWindow 0 4 = 0; ofWindow 0 5 = -9; ofWindow 0 6 = -9
        window 0 5 10 10; ofWindow 0 4 = 1; window 0 5 9 9; ofWindow 1 4 = 0
        # 43 5: the PERIODS about which WORDS lie in the STORE, STANDING or not, at all times as these are then
        : tell 0 5 10 1; window 0 5 0 999; tick 0 1; takeBack 0 5 10
        ofWindow 0 4 = 1; ofWindow 0 5 = 10; tell 0 5 0 1; tell 0 5 999 1; ofWindow 0 4 = 3; ofWindow 0 5 = 0; ofWindow 0 6 = 999
        tick 0 1; forget 0 2; ofWindow 0 4 = 1
        """;

    private static final String SNAPSHOTS = """
        # 17 5: SNAPSHOTS: at most 6, numbered from 0
        snap 0 0 = 0; snap 1 0 = 1; house 2 = 2
        5x snap 0 0; snap 1 0 = 5; house 2 = 6; snap 0 0 = state; ofSnap 5 0 = 1; ofSnap 6 0 = index
        6x snap 0 0; snap 2 0 = index; snap 0 1000 = argument; snap 0 1 = state
        6x snap 0 0; drop 0 = 5; snap 1 0 = 5

        # 20 5: if one is dropped, those with greater numbers are one less
        : tell 0 5 10 1; tick 0 3; snap 0 0; snap 0 1; snap 0 2; snap 0 3; snapNext 2
        drop 0 = 3; ofSnap 0 1 = 1; ofSnap 1 1 = 2; ofSnap 2 1 = 3; ofSnap 3 1 = index; ofSnap 1 6 = 10; ofSnap 2 6 = -1
        drop 1 = 3; ofSnap 0 1 = 0; ofSnap 1 1 = 2; ofSnap 2 1 = 3; ofSnap 1 6 = 10
        drop 3 = 3; ofSnap 2 1 = 2; ofSnap 2 6 = 10; ofSnap 3 1 = index
        drop 4 = index
        4x drop 0; house 2 = 0; drop 0 = index
        drop 2; snap 0 1 = 3; ofSnap 3 6 = -1; ofSnap 2 1 = 3

        # 46 5: the LINES of all KEYS, known at it, as they were when it was made; it never changes
        : tell 0 5 10 1; tell 0 0 0 2; tell 0 39 999 3; tick 0 1; takeBack 0 5 10; tell 0 0 0 4; snap 0 1; snap 0 0
        ofSnap 0 4 = 2; ofSnap 0 3 = 2; ofSnap 1 4 = 3; ofSnap 1 3 = 3; snapRead 0 0 0 = 4; snapRead 1 0 0 = 2
        tell 0 7 1 1; forget 0 1; tick 0 1; tell 0 0 0 9; ofSnap 0 4 = 2; snapRead 0 0 0 = 4; snapRead 0 7 9 = -1; snapRead 1 5 10 = 1
        # 46 5: of a SNAPSHOT of one that is not SETTLED what is told at that MINUTE later is not had
        : tell 0 5 10 1; snap 0 0; tell 0 5 11 1
        ofSnap 0 4 = 1; ofSnap 0 2 = 0; isSound = true

        # 46 5: it is SETTLED, if that MINUTE was AHEAD of the CLOCK then
        : ticks 0 3
        snap 0 3 = 0; ofSnap 0 2 = 0; tick 0 1; ofSnap 0 2 = 0
        snap 0 2 = 0; ofSnap 0 2 = 1
        snap 0 0 = 0; ofSnap 0 2 = 1
        snap 1 0 = 0; ofSnap 0 2 = 0

        # 18 5: a MARK goes from one to the next; at first it is ahead of the first one
        : tell 0 5 10 1; tell 0 5 20 2; end 0 3 30; snap 0 0; snap 1 0
        ofSnap 0 5 = -1; ofSnap 0 6 = -1; ofSnap 0 7 = -1; snapNext 0 = 3; ofSnap 0 5 = 3; ofSnap 0 6 = 30; ofSnap 0 7 = -1
        2x snapNext 0; ofSnap 0 6 = 10; snapNext 0 = 5; ofSnap 0 6 = 20; ofSnap 0 7 = 2; snapNext 0 = -9; ofSnap 0 6 = 20
        snapNext 1 = -9; ofSnap 1 5 = -1; rewind 1 = 0
        """;

    private static final String FORGETTING = """
        # 48 6: the JOURNAL has all its WORDS in the order in which they were TOLD, at places from 0
        : tell 0 5 10 1; tell 0 3 20 2; tick 0 1; tell 0 4 0 3
        entry 0 0 1 = 5; entry 0 1 1 = 3; entry 0 2 1 = 4; entry 0 3 1 = index; entry 0 -1 1 = index; journal 0 0 = 2; journal 0 1 = 3

        # 50 6: REBUILT has only the WORDS of the JOURNAL told not BEHIND this MINUTE
        : tell 0 5 10 1; tick 0 2; tell 0 5 10 2; tick 0 1
        rebuiltRead 0 5 10 0 = 1; rebuiltRead 0 5 10 1 = 1; rebuiltRead 0 5 10 2 = 2; rebuiltRead 0 5 9 2 = -1

        # 21 6: each WORD leaves, if another one about the same KEY and PERIOD was told later, not BEHIND that MINUTE
        : tell 0 5 10 1; tick 0 2; tell 0 5 10 2; tick 0 2
        forget 0 1 = 0; words 0 5 10 = 2; journal 0 999 = 2; ofStore 0 6 = 0
        forget 0 2 = 1; words 0 5 10 = 1; journal 0 999 = 1; ofStore 0 6 = 1; entry 0 0 0 = 2
        forget 0 4 = 1; words 0 5 10 = 1; read 0 5 10 4 = 2
        wouldForget 0 1 = 0; wouldForget 0 2 = 1; wouldForget 0 4 = 1
        # 21 6: one about another KEY, PERIOD or STORE does not make it leave
        : tell 0 5 10 1; tick 0 1; tick 1 1; tell 0 5 9 1; tell 0 5 11 1; tell 0 4 10 1; tell 0 6 10 1; tell 1 5 10 1; tick 0 1
        forget 0 2 = 0; ofStore 0 3 = 5
        # 21 6: the LATEST stays, also if it says BACK or ENDED
        : tell 0 5 10 1; end 0 6 10; tick 0 1; takeBack 0 5 10; end 0 6 10
        forget 0 1 = 2; words 0 5 10 = 1; words 0 6 10 = 1; word 0 5 10 0 1 = -2; tick 0 1; takeBack 0 5 10 = state
        # 21 6: of three the first two leave, or the first alone
        : 3x tick 0 1; tell 0 5 10 1; tick 0 1; tell 0 5 10 2; tick 0 1; tell 0 5 10 3
        forget 0 3 = 0; ofStore 0 3 = 3
        forget 0 4 = 1; ofStore 0 3 = 2; read 0 5 10 4 = 2
        forget 0 5 = 2; ofStore 0 3 = 1; read 0 5 10 5 = 3

        # 21 6: this MINUTE is the HORIZON then
        : ticks 0 5
        forget 0 0 = 0; ofStore 0 1 = 0; read 0 0 0 0 = -1
        forget 0 3 = 0; ofStore 0 1 = 3; ofStore 1 1 = 0; forget 0 2 = state; forget 0 3 = 0; forget 0 4 = 0; ofStore 0 1 = 4
        forget 0 5 = 0; ofStore 0 1 = 5; forget 0 4 = state; forget 0 6 = state
        # 21 6: what left makes room among the 120
        : fill 0 119; tick 0 1; tell 0 0 0 9; forget 0 1
        ofStore 0 3 = 119; tell 0 0 5 1 = 1; tell 0 0 6 1 = state
        """;

    private static final String JOINING = """
        # 22 7: the BOOK is empty at first; no two with the same KEY, PERIOD, MINUTE told and STORE
        ofBook 0 = 0; gather 0 = 0; gather 1 = 0; emptyBook = 0; bookRead 0 0 0 = -1; bookBy 0 0 0 = -1
        : tell 0 5 10 1; tell 1 5 10 1; tell 0 5 11 1; tell 0 6 10 1
        gather 0 = 3; gather 0 = 0; gather 1 = 1; gather 1 = 0; ofBook 0 = 4; ofBook 1 = 2; ofBook 2 = 3; ofBook 3 = 1
        gather 0; tick 0 1; tell 0 5 10 1; gather 0 = 1; ofBook 0 = 4
        # 22 7: the WORDS that lie there now; what left a STORE stays in the BOOK
        : tell 0 5 10 1; gather 0; tick 0 1; tell 0 5 10 2; tick 0 1; tell 0 5 10 3; forget 0 2
        gather 0 = 1; ofBook 0 = 2; bookRead 5 10 0 = 1; bookRead 5 10 1 = 1; bookRead 5 10 2 = 3; emptyBook = 2; gather 0 = 1

        # 51 7: of two told at the same MINUTE that of STORE 1 counts as told later
        : tell 0 5 10 1; tell 1 5 10 2; tick 0 1; tell 0 5 10 3; tick 0 1; tick 1 2; end 1 5 10; tell 0 5 10 4; gather 1; gather 0
        bookRead 5 10 0 = 2; bookBy 5 10 0 = 1; bookRead 5 10 1 = 3; bookBy 5 10 1 = 0; bookRead 5 10 2 = -1; bookBy 5 10 2 = 1
        # 52 7: BACK of STORE 1 leaves no SPOT there, that of STORE 0 at the same MINUTE does not matter
        : tell 0 5 10 1; tell 1 5 10 2; tell 1 5 9 7; tick 0 1; tick 1 1; takeBack 1 5 10; tell 0 5 10 3; gather 0; gather 1
        bookRead 5 10 1 = 7; bookBy 5 10 1 = 1; bookRead 5 8 1 = -1; bookBy 5 8 1 = -1
        : tell 0 5 10 1; tell 1 5 10 2; tick 0 1; tick 1 1; takeBack 0 5 10; tell 1 5 10 3; gather 0; gather 1
        bookRead 5 10 1 = 3; bookBy 5 10 1 = 1

        # 54 7: joining in either order, of STORES that are empty, alike or unlike
        joinedRead 0 0 0 false = -1; joinedRead 39 999 999 true = -1; joinedWords 0 = 0; joinedWords 1 = 0; joinedWords 2 = 0
        : tell 0 5 10 1; tell 1 5 10 2; tell 1 39 999 3
        joinedRead 5 10 0 false = 2; joinedRead 5 10 0 true = 2; joinedRead 5 9 0 true = -1; joinedRead 39 999 999 false = 3
        joinedWords 0 = 3; joinedWords 1 = 3; joinedWords 2 = 3
        # 55 7: the BOOK counts where it is named, each WORD once
        : tell 0 5 10 1; gather 0; tick 0 1; tell 0 5 10 2; forget 0 1; tell 1 5 10 3
        joinedWords 0 = 2; joinedWords 1 = 3; joinedWords 2 = 3; emptyBook = 1; joinedWords 1 = 2; joinedWords 2 = 2
        # 55 7: two full STORES, joined
        : fill 0 120; fill 1 120
        joinedWords 0 = 240; gather 0 = 120; joinedWords 1 = 240; joinedWords 2 = 240; gather 1 = 120; ofBook 0 = 240
        """;
}
