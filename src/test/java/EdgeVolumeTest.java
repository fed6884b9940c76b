/**
 * The boundary cases of the volume: the KINDS, TO FIND n TRACKS, THE TABLE in terms III, and promises 14
 * to 17; above each test stands the sentence that it asks for.
 */
public final class EdgeVolumeTest extends Rig {
    public static void main(String[] args) {
        fixedAndLibrary();
        variableAndSpanned();
        direct();
        kindsThatAreNot();
        tracksOf1To79();
        rangeChangesNothing();
        nameOfEightBytes();
        twice();
        tenAreThere();
        theLowestThatIsFree();
        answersInTheirOrder();
        runByRun();
        wholeAsFarAsWanted();
        moreRunsThanMayBe();
        tooFewTracks();
        allTracks();
        allAtOnce();
        allAtOnceAtTheEnd();
        scratchGone();
        scratchIsForgotten();
        scratchNone();
        scratchBusy();
        scratchedHaveNoRecords();
        thatComeHaveNoRecords();
        extendRange();
        extendNone();
        extendDirect();
        extendFull();
        extendRunsLeft();
        extendRightBehind();
        extendRightBehindIsOneOfThese();
        extendWithFour();
        extendWhileOpen();
        tableOfEach();
        tableOfFourExtents();
        tableOfTen();
        tableBehindEachChange();
        tableWithoutAChange();
        dataSetNone();
        dataSetHowOftenOpen();
        Due.settle();
    }

    private static int allocate(CountKeyStore x, String name, int kind, int tracks, int a, int b) {
        return Due.allocate(x, name, kind, tracks, a, b);
    }

    private static int atOnce(CountKeyStore x, String name, int tracks) {
        Due.fill(x, name);
        return x.allocate(FIXED, tracks, 1, 1, true);
    }

    private static int scratch(CountKeyStore x, String name) {
        Due.fill(x, name);
        return x.scratch();
    }

    private static int extend(CountKeyStore x, String name, int tracks) {
        Due.fill(x, name);
        return x.extend(tracks);
    }

    private static void kind(int due, int kind, int a, int b) {
        CountKeyStore x = new CountKeyStore();
        Due.is("kind " + kind + " " + a + " " + b, allocate(x, "A", kind, 2, a, b), due);
        Due.is("a", x.dataSet(0, 1), due == 0 ? a : NONE);
        Due.is("b", x.dataSet(0, 2), due == 0 ? b : NONE);
    }

    private static void extents(CountKeyStore x, int d, int... due) {
        int tracks = 0;
        for (int i = 0; i < due.length; i++) {
            Due.is("extent " + i, x.dataSet(d, 20 + i), due[i]);
            tracks += i % 2 == 1 ? due[i] : 0;
        }
        Due.is("behind them", x.dataSet(d, 20 + due.length), NONE);
        Due.is("extents", x.dataSet(d, 4), due.length / 2);
        Due.is("tracks", x.dataSet(d, 3), tracks);
    }

    /** Sets S0, S1, .. with so many tracks each, from track 1 on; those of odd numbers are scratched then. */
    private static CountKeyStore holes(int... runs) {
        CountKeyStore x = new CountKeyStore();
        for (int i = 0; i < runs.length; i++) {
            Due.is("allocate", allocate(x, "S" + i, FIXED, runs[i], 1, 1), i);
        }
        for (int i = 1; i < runs.length; i += 2) {
            Due.is("scratch", scratch(x, "S" + i), i);
        }
        return x;
    }

    // "0 FIXED and 4 LIBRARY: a 1 .. 200, b 1 .. 20, a times b at most 1200"
    private static void fixedAndLibrary() {
        for (int kind = FIXED; kind <= LIBRARY; kind += LIBRARY) {
            for (int[] good : new int[][] {{1, 1}, {200, 1}, {1, 20}, {200, 6}, {60, 20}, {171, 7}, {120, 10}}) {
                kind(0, kind, good[0], good[1]);
            }
            for (int[] bad : new int[][] {{0, 1}, {201, 1}, {1, 0}, {1, 21}, {200, 7}, {61, 20}, {172, 7}, {121, 10}, {-1, 1},
                {1, -1}, {-1, -1}, {0, 0}, {65536, 65536}, {MAX, 1}, {1, MAX}, {MIN, MIN}, {MAX, MAX}}) {
                kind(RANGE, kind, bad[0], bad[1]);
            }
        }
    }

    // "1 VARIABLE, 2 SPANNED: a 0, b 8 .. 1200"
    private static void variableAndSpanned() {
        for (int kind = VARIABLE; kind <= SPANNED; kind++) {
            kind(0, kind, 0, 8);
            kind(0, kind, 0, 1200);
            for (int[] bad : new int[][] {{0, 7}, {0, 1201}, {1, 8}, {-1, 8}, {0, 0}, {0, -8}, {0, MIN}, {0, MAX}, {MAX, 8}}) {
                kind(RANGE, kind, bad[0], bad[1]);
            }
        }
    }

    // "3 DIRECT: a 1 .. 8, b 0 .. 400"
    private static void direct() {
        for (int[] good : new int[][] {{1, 0}, {8, 0}, {1, 400}, {8, 400}}) {
            kind(0, DIRECT, good[0], good[1]);
        }
        for (int[] bad : new int[][] {{0, 0}, {9, 0}, {1, -1}, {1, 401}, {0, 401}, {-1, 1}, {MIN, 1}, {1, MAX}}) {
            kind(RANGE, DIRECT, bad[0], bad[1]);
        }
    }

    // "RANGE: no such KIND"
    private static void kindsThatAreNot() {
        for (int kind : new int[] {-1, 5, MIN, MAX}) {
            kind(RANGE, kind, 1, 8);
            kind(RANGE, kind, 0, 8);
        }
    }

    // "tracks not 1 .. 79 (2 .. of a LIBRARY)" and "A LIBRARY has 2 TRACKS or more."
    private static void tracksOf1To79() {
        for (int tracks : new int[] {1, 2, 79}) {
            CountKeyStore x = new CountKeyStore();
            Due.is("FIXED " + tracks, allocate(x, "A", FIXED, tracks, 1, 1), 0);
            Due.is("tracks", x.dataSet(0, 3), tracks);
            x = new CountKeyStore();
            Due.is("LIBRARY " + tracks, allocate(x, "A", LIBRARY, tracks, 1, 1), tracks == 1 ? RANGE : 0);
        }
        for (int tracks : new int[] {0, 80, -1, MIN, MAX}) {
            for (int kind = FIXED; kind <= LIBRARY; kind++) {
                CountKeyStore x = new CountKeyStore();
                int a = kind == VARIABLE || kind == SPANNED ? 0 : 1;
                Due.is("kind " + kind + " " + tracks, allocate(x, "A", kind, tracks, a, 8), RANGE);
                Due.fill(x, "A");
                Due.is("at once", x.allocate(kind, tracks, a, 8, true), RANGE);
            }
        }
        CountKeyStore x = new CountKeyStore();
        Due.fill(x, "A");
        Due.is("a LIBRARY of one, at once", x.allocate(LIBRARY, 1, 1, 1, true), RANGE);
    }

    // What is refused leaves all as it is.
    private static void rangeChangesNothing() {
        CountKeyStore x = new CountKeyStore();
        allocate(x, "A", FIXED, 80, 1, 1);
        allocate(x, "A", 9, 1, 1, 1);
        Due.is("free tracks", x.count(0), 79);
        Due.is("data sets", x.count(1), 0);
        Due.is("the table", x.record(0, 0, 0, 0), NONE);
        Due.is("the name is not taken", allocate(x, "A", FIXED, 1, 1, 1), 0);
    }

    // "A DATA SET with the NAME in THE BUFFER (read; its first 8 bytes, 32s behind them)"
    private static void nameOfEightBytes() {
        CountKeyStore x = new CountKeyStore();
        Due.is("none", allocate(x, "", FIXED, 1, 1, 1), 0);
        Due.fill(x, 255);
        Due.is("one", x.allocate(FIXED, 1, 1, 1, false), 1);
        Due.is("seven", allocate(x, "ABCDEFG", FIXED, 1, 1, 1), 2);
        Due.is("eight", allocate(x, "ABCDEFGH", FIXED, 1, 1, 1), 3);
        Due.is("nine", allocate(x, "ABCDEFGIX", FIXED, 1, 1, 1), 4);
        int[][] due = {{32, 32, 32, 32, 32, 32, 32, 32}, {255, 32, 32, 32, 32, 32, 32, 32}, Due.bytes("ABCDEFG "),
            Due.bytes("ABCDEFGH"), Due.bytes("ABCDEFGI")};
        for (int d = 0; d < 5; d++) {
            for (int i = 0; i < 8; i++) {
                Due.is("its name", x.dataSet(d, 10 + i), due[d][i]);
            }
            Due.holds("its key in the table", Due.keyIs(x, 0, 0, d, due[d]));
        }
        Due.is("a name behind a longer one", allocate(x, "Q", FIXED, 1, 1, 1), 5);
        Due.is("has 32s", x.dataSet(5, 11), 32);
    }

    // "TWICE: the NAME is there"
    private static void twice() {
        CountKeyStore x = new CountKeyStore();
        allocate(x, "AB", FIXED, 1, 1, 1);
        allocate(x, "ABCDEFGH", FIXED, 1, 1, 1);
        for (String name : new String[] {"AB", "AB ", "AB      ", "AB      X", "ABCDEFGH", "ABCDEFGHI"}) {
            Due.is(name, allocate(x, name, VARIABLE, 1, 0, 8), TWICE);
        }
        Due.is("another", allocate(x, "A", FIXED, 1, 1, 1), 2);
        Due.is("another in its last byte", allocate(x, "ABCDEFGI", FIXED, 1, 1, 1), 3);
        Due.is("count(1)", x.count(1), 4);
        scratch(x, "AB");
        Due.is("it is gone", allocate(x, "AB", FIXED, 1, 1, 1), 0);
    }

    // "FULL: ten are there"
    private static void tenAreThere() {
        CountKeyStore x = new CountKeyStore();
        for (int d = 0; d < 10; d++) {
            Due.is("allocate", allocate(x, "S" + d, FIXED, 1, 1, 1), d);
        }
        Due.is("the eleventh", allocate(x, "X", FIXED, 1, 1, 1), FULL);
        Due.is("at once", atOnce(x, "X", 1), FULL);
        Due.is("count(0)", x.count(0), 69);
        Due.is("count(1)", x.count(1), 10);
        scratch(x, "S9");
        Due.is("one is gone", allocate(x, "X", FIXED, 1, 1, 1), 9);
    }

    // "its number, the lowest that is free."
    private static void theLowestThatIsFree() {
        CountKeyStore x = new CountKeyStore();
        for (int d = 0; d < 5; d++) {
            allocate(x, "S" + d, FIXED, 1, 1, 1);
        }
        scratch(x, "S3");
        scratch(x, "S0");
        Due.is("0", allocate(x, "X", FIXED, 1, 1, 1), 0);
        Due.is("3", allocate(x, "Y", FIXED, 1, 1, 1), 3);
        Due.is("5", allocate(x, "Z", FIXED, 1, 1, 1), 5);
    }

    // "RANGE: ...; TWICE: ...; FULL: ..."
    private static void answersInTheirOrder() {
        CountKeyStore x = new CountKeyStore();
        for (int d = 0; d < 10; d++) {
            allocate(x, "S" + d, FIXED, 7, 1, 1);
        }
        Due.is("RANGE ahead of TWICE", allocate(x, "S0", FIXED, 80, 1, 1), RANGE);
        Due.is("RANGE ahead of FULL", allocate(x, "X", FIXED, 1, 0, 1), RANGE);
        Due.is("TWICE ahead of FULL", allocate(x, "S0", FIXED, 79, 1, 1), TWICE);
        Due.is("FULL", allocate(x, "X", FIXED, 79, 1, 1), FULL);
    }

    // "the free TRACKS, from the lowest on, run by run"
    private static void runByRun() {
        // Free: 2 .. 3, 6, 8 .. 10, 12 .. 79.
        CountKeyStore x = holes(1, 2, 2, 1, 1, 3, 1);
        Due.is("two: the first run", allocate(x, "A", FIXED, 2, 1, 1), 1);
        extents(x, 1, 2, 2);
        x = holes(1, 2, 2, 1, 1, 3, 1);
        Due.is("three: two runs", allocate(x, "A", FIXED, 3, 1, 1), 1);
        extents(x, 1, 2, 2, 6, 1);
        x = holes(1, 2, 2, 1, 1, 3, 1);
        Due.is("six: three runs", allocate(x, "A", FIXED, 6, 1, 1), 1);
        extents(x, 1, 2, 2, 6, 1, 8, 3);
        Due.is("count(0)", x.count(0), 68);
    }

    // "each wholly as far as still wanted"
    private static void wholeAsFarAsWanted() {
        CountKeyStore x = holes(1, 2, 2, 1, 1, 3, 1);
        Due.is("one of the first run", allocate(x, "A", FIXED, 1, 1, 1), 1);
        extents(x, 1, 2, 1);
        Due.is("what is left of it, and more", allocate(x, "B", FIXED, 4, 1, 1), 3);
        extents(x, 3, 3, 1, 6, 1, 8, 2);
        Due.is("the last of a run, and of the next", allocate(x, "C", FIXED, 2, 1, 1), 5);
        extents(x, 5, 10, 1, 12, 1);
    }

    // "if that takes more than e runs, or there are too few: no room." (by 4 runs)
    private static void moreRunsThanMayBe() {
        // Free: 2, 4, 6, 8, 10 .. 79.
        CountKeyStore x = holes(1, 1, 1, 1, 1, 1, 1, 1, 1);
        Due.is("five runs", allocate(x, "A", FIXED, 5, 1, 1), FULL);
        Due.is("though there are many", x.count(0), 74);
        Due.is("no set came", x.count(1), 5);
        Due.is("the table has five", x.record(0, 0, 5, 0), NONE);
        Due.is("four runs", allocate(x, "A", FIXED, 4, 1, 1), 1);
        extents(x, 1, 2, 1, 4, 1, 6, 1, 8, 1);
    }

    // "or there are too few"
    private static void tooFewTracks() {
        CountKeyStore x = new CountKeyStore();
        allocate(x, "A", FIXED, 70, 1, 1);
        Due.is("ten of nine", allocate(x, "B", FIXED, 10, 1, 1), FULL);
        Due.is("count(0)", x.count(0), 9);
        Due.is("nine of nine", allocate(x, "B", FIXED, 9, 1, 1), 1);
        extents(x, 1, 71, 9);
        Due.is("one of none", allocate(x, "C", FIXED, 1, 1, 1), FULL);
        Due.is("one of none, at once", atOnce(x, "C", 1), FULL);
    }

    // "runs of TRACKS 1 .. 79"
    private static void allTracks() {
        CountKeyStore x = new CountKeyStore();
        Due.is("79", allocate(x, "A", FIXED, 79, 1, 1), 0);
        extents(x, 0, 1, 79);
        Due.is("count(0)", x.count(0), 0);
        // Four runs that end with track 79.
        x = holes(1, 1, 1, 1, 1, 1, 1);
        Due.is("all that are free", allocate(x, "A", FIXED, 75, 1, 1), 1);
        extents(x, 1, 2, 1, 4, 1, 6, 1, 8, 72);
        Due.is("count(0)", x.count(0), 0);
    }

    // "All at once: the first run of n or more."
    private static void allAtOnce() {
        CountKeyStore x = holes(1, 2, 2, 1, 1, 3, 1);
        Due.is("three: the run of three", atOnce(x, "A", 3), 1);
        extents(x, 1, 8, 3);
        x = holes(1, 2, 2, 1, 1, 3, 1);
        Due.is("two: the run of two", atOnce(x, "A", 2), 1);
        extents(x, 1, 2, 2);
        x = holes(1, 2, 2, 1, 1, 3, 1);
        Due.is("one: of the run of two", atOnce(x, "A", 1), 1);
        extents(x, 1, 2, 1);
        x = holes(1, 2, 2, 1, 1, 3, 1);
        Due.is("four: the last run", atOnce(x, "A", 4), 1);
        extents(x, 1, 12, 4);
    }

    // The same, where the last run is just long enough, and one too short.
    private static void allAtOnceAtTheEnd() {
        CountKeyStore x = holes(1, 2, 2, 1, 1, 3, 1);
        Due.is("69 of 74", atOnce(x, "A", 69), FULL);
        Due.is("count(0)", x.count(0), 74);
        Due.is("68", atOnce(x, "A", 68), 1);
        extents(x, 1, 12, 68);
        Due.is("four of six", atOnce(x, "B", 4), FULL);
        Due.is("by runs", allocate(x, "B", FIXED, 4, 1, 1), 3);
        extents(x, 3, 2, 2, 6, 1, 8, 1);
        x = new CountKeyStore();
        Due.is("79", atOnce(x, "A", 79), 0);
        extents(x, 0, 1, 79);
    }

    // "The DATA SET with the NAME in THE BUFFER (read) is gone: its number."
    private static void scratchGone() {
        CountKeyStore x = holes(1, 2, 2, 1, 1, 3, 1);
        allocate(x, "A", FIXED, 74, 1, 1);
        Due.is("count(0)", x.count(0), 0);
        Due.is("scratch", scratch(x, "A"), 1);
        Due.is("all its runs are free", x.count(0), 74);
        Due.is("count(1)", x.count(1), 4);
        for (int what : new int[] {0, 3, 4, 5, 6, 10, 20}) {
            Due.is("dataSet", x.dataSet(1, what), NONE);
        }
        Due.is("open", Due.open(x, "A", TO_GET), NONE);
        Due.is("extend", extend(x, "A", 1), NONE);
        Due.is("scratch", scratch(x, "A"), NONE);
        Due.is("the others stay", x.dataSet(2, 20), 4);
    }

    // The same: nothing of it is left to the next one with its number
    private static void scratchIsForgotten() {
        CountKeyStore x = holes(1, 1, 1, 1, 1, 1, 1);
        Due.is("four extents", allocate(x, "A", FIXED, 4, 1, 1), 1);
        extents(x, 1, 2, 1, 4, 1, 6, 1, 8, 1);
        scratch(x, "A");
        Due.is("one extent", allocate(x, "B", FIXED, 1, 200, 6), 1);
        extents(x, 1, 2, 1);
        Due.is("another", allocate(x, "C", FIXED, 3, 1, 1), 3);
        extents(x, 3, 4, 1, 6, 1, 8, 1);
        int h = Due.open(x, "C", TO_PUT);
        Due.put(x, h, 9);
        x.close(h);
        h = Due.open(x, "B", TO_PUT);
        for (int i = 0; i < 7; i++) {
            Due.is("put", Due.put(x, h, Due.row(200, i)), 1);
        }
        Due.is("it has one track", Due.put(x, h, Due.row(200, 7)), FULL);
        x.close(h);
        h = Due.open(x, "B", TO_GET);
        for (int i = 0; i < 7; i++) {
            Due.is("get", x.get(h), 200);
        }
        Due.is("and no more", x.get(h), NONE);
        x.close(h);
        Due.is("free", x.count(0), 71);
        Due.is("scratch", scratch(x, "B"), 1);
        Due.is("one more is free", x.count(0), 72);
        Due.is("C's record stays", x.record(0, 4, 0, 200), 9);
    }

    // "NONE" (of scratch)
    private static void scratchNone() {
        CountKeyStore x = new CountKeyStore();
        Due.is("of no sets", scratch(x, ""), NONE);
        allocate(x, "AB", FIXED, 1, 1, 1);
        Due.is("A", scratch(x, "A"), NONE);
        Due.is("ABC", scratch(x, "ABC"), NONE);
        Due.is("none", scratch(x, ""), NONE);
        Due.is("count(1)", x.count(1), 1);
        Due.is("AB and 32s", scratch(x, "AB       X"), 0);
    }

    // "BUSY" (of scratch): it is open, whatever for
    private static void scratchBusy() {
        for (int mode = TO_GET; mode <= TO_CHANGE; mode++) {
            CountKeyStore x = new CountKeyStore();
            allocate(x, "A", FIXED, 1, 1, 1);
            allocate(x, "B", FIXED, 1, 1, 1);
            int h = Due.open(x, "A", mode);
            Due.is("BUSY", scratch(x, "A"), BUSY);
            Due.is("it is there", x.dataSet(0, 3), 1);
            Due.is("count(0)", x.count(0), 77);
            Due.is("another is not", scratch(x, "B"), 1);
            x.close(h);
            Due.is("closed", scratch(x, "A"), 0);
        }
        CountKeyStore x = new CountKeyStore();
        allocate(x, "A", FIXED, 1, 1, 1);
        Due.open(x, "A", TO_GET);
        Due.open(x, "A", TO_GET);
        x.close(0);
        Due.is("open once more", scratch(x, "A"), BUSY);
        x.close(1);
        Due.is("closed", scratch(x, "A"), 0);
    }

    // "TRACKS that come, and those of what is scratched, have no RECORDS."
    private static void scratchedHaveNoRecords() {
        CountKeyStore x = new CountKeyStore();
        allocate(x, "A", FIXED, 2, 200, 6);
        allocate(x, "B", FIXED, 1, 1, 1);
        int h = Due.open(x, "A", TO_PUT);
        for (int i = 0; i < 8; i++) {
            Due.put(x, h, Due.row(200, i));
        }
        x.close(h);
        h = Due.open(x, "B", TO_PUT);
        Due.put(x, h, 9);
        x.close(h);
        Due.is("on the first", x.record(0, 1, 0, 4), 1200);
        Due.is("on the second", x.record(0, 2, 0, 4), 400);
        scratch(x, "A");
        Due.is("none on the first", x.record(0, 1, 0, 4), NONE);
        Due.is("none on the second", x.record(0, 2, 0, 4), NONE);
        Due.is("B's stays", x.record(0, 3, 0, 200), 9);
    }

    // The same, of what is allocated and of extend().
    private static void thatComeHaveNoRecords() {
        CountKeyStore x = new CountKeyStore();
        allocate(x, "A", LIBRARY, 2, 1, 1);
        int h = Due.open(x, "A", TO_PUT);
        Due.put(x, h, 1);
        Due.stow(x, h, "M");
        x.close(h);
        scratch(x, "A");
        allocate(x, "A", LIBRARY, 2, 1, 1);
        Due.is("no list", x.record(0, 1, 0, 4), NONE);
        Due.is("no block", x.record(0, 2, 0, 4), NONE);
        Due.is("no members", x.dataSet(0, 6), 0);
        Due.is("no member 0", x.memberAt(0, 0), NONE);
        Due.is("extend", extend(x, "A", 1), 3);
        Due.is("no block", x.record(0, 3, 0, 4), NONE);
    }

    // "has so many TRACKS more, 1 .. 79: ... RANGE"
    private static void extendRange() {
        CountKeyStore x = new CountKeyStore();
        allocate(x, "A", FIXED, 1, 1, 1);
        for (int tracks : new int[] {0, 80, -1, MIN, MAX}) {
            Due.is("extend " + tracks, extend(x, "A", tracks), RANGE);
            Due.is("ahead of NONE", extend(x, "X", tracks), RANGE);
        }
        extents(x, 0, 1, 1);
        Due.is("79", extend(x, "A", 79), FULL);
        Due.is("78", extend(x, "A", 78), 79);
        extents(x, 0, 1, 79);
        Due.is("one of none", extend(x, "A", 1), FULL);
    }

    // "NONE" (of extend)
    private static void extendNone() {
        CountKeyStore x = new CountKeyStore();
        Due.is("of no sets", extend(x, "A", 1), NONE);
        allocate(x, "A", FIXED, 1, 1, 1);
        Due.is("another", extend(x, "B", 1), NONE);
        Due.is("ahead of FULL", extend(x, "B", 79), NONE);
    }

    // "STATE of a DIRECT one"
    private static void extendDirect() {
        CountKeyStore x = new CountKeyStore();
        for (int kind = FIXED; kind <= LIBRARY; kind++) {
            int a = kind == VARIABLE || kind == SPANNED ? 0 : 1;
            allocate(x, "K" + kind, kind, 2, a, 8);
            Due.is("kind " + kind, extend(x, "K" + kind, 1), kind == DIRECT ? STATE : 3);
        }
        Due.is("ahead of FULL", extend(x, "K3", 79), STATE);
        Due.is("it stays", x.dataSet(DIRECT, 3), 2);
    }

    // "FULL" (of extend): nothing changes
    private static void extendFull() {
        CountKeyStore x = new CountKeyStore();
        allocate(x, "A", FIXED, 70, 1, 1);
        x.spoil(0, 0, 0);
        Due.is("ten of nine", extend(x, "A", 10), FULL);
        extents(x, 0, 1, 70);
        Due.is("count(0)", x.count(0), 9);
        Due.is("the table is not written", x.record(0, 0, 0, 6), 1);
        Due.is("nine of nine", extend(x, "A", 9), 79);
        extents(x, 0, 1, 79);
    }

    // "extend(): by as many runs as EXTENTS are left"
    private static void extendRunsLeft() {
        // Free: 2, 4, 6, 8, 10 .. 79; S4 is on track 5, S8 on track 9.
        CountKeyStore x = holes(1, 1, 1, 1, 1, 1, 1, 1, 1);
        Due.is("four runs for three", extend(x, "S4", 4), FULL);
        extents(x, 4, 5, 1);
        Due.is("three", extend(x, "S4", 3), 4);
        // 6 is right behind 5, but this is not its last extent any more.
        extents(x, 4, 5, 1, 2, 1, 4, 1, 6, 1);
        Due.is("none are left", extend(x, "S4", 1), FULL);
        extents(x, 4, 5, 1, 2, 1, 4, 1, 6, 1);
        Due.is("count(0)", x.count(0), 71);
        Due.is("two runs of another", extend(x, "S8", 2), 3);
        // 8, then 10, which is not right behind 8.
        extents(x, 8, 9, 1, 8, 1, 10, 1);
        Due.is("one run for one", extend(x, "S8", 1), 4);
        extents(x, 8, 9, 1, 8, 1, 10, 2);
        Due.is("still one is left", extend(x, "S8", 68), 72);
        extents(x, 8, 9, 1, 8, 1, 10, 70);
    }

    // "a run that begins right behind the last TRACK of the last EXTENT makes this longer in place of a new one"
    private static void extendRightBehind() {
        CountKeyStore x = new CountKeyStore();
        allocate(x, "A", FIXED, 2, 1, 1);
        Due.is("right behind", extend(x, "A", 1), 3);
        extents(x, 0, 1, 3);
        allocate(x, "B", FIXED, 1, 1, 1);
        Due.is("behind B", extend(x, "A", 1), 4);
        extents(x, 0, 1, 3, 5, 1);
        scratch(x, "B");
        // Free: 4, 6 ..: 4 is right behind the first extent, not the last.
        Due.is("two runs", extend(x, "A", 2), 6);
        extents(x, 0, 1, 3, 5, 1, 4, 1, 6, 1);
        // Up to the last track.
        x = new CountKeyStore();
        allocate(x, "A", FIXED, 78, 1, 1);
        Due.is("track 79", extend(x, "A", 1), 79);
        extents(x, 0, 1, 79);
    }

    // "but is one of these all the same."
    private static void extendRightBehindIsOneOfThese() {
        // S0 has track 1; free: 2 .. 3, 6, 8 .. 10, 12 .. 79: three runs, the first of them right behind it.
        CountKeyStore x = holes(1, 2, 2, 1, 1, 3, 1);
        Due.is("four runs, of which one makes no new extent", extend(x, "S0", 7), FULL);
        extents(x, 0, 1, 1);
        Due.is("three runs", extend(x, "S0", 6), 7);
        extents(x, 0, 1, 3, 6, 1, 8, 3);
        Due.is("one is left", extend(x, "S0", 1), 8);
        extents(x, 0, 1, 3, 6, 1, 8, 3, 12, 1);
    }

    // The same: with 4 EXTENTS none is left, not even for a run right behind the last.
    private static void extendWithFour() {
        CountKeyStore x = holes(1, 1, 1, 1, 1, 1, 1);
        Due.is("four extents", allocate(x, "A", FIXED, 4, 1, 1), 1);
        extents(x, 1, 2, 1, 4, 1, 6, 1, 8, 1);
        Due.is("9 is right behind 8", extend(x, "A", 1), FULL);
        extents(x, 1, 2, 1, 4, 1, 6, 1, 8, 1);
        Due.is("count(0)", x.count(0), 71);
    }

    // "(Also while it is open.)"
    private static void extendWhileOpen() {
        for (int mode = TO_GET; mode <= TO_CHANGE; mode++) {
            CountKeyStore x = new CountKeyStore();
            allocate(x, "A", VARIABLE, 1, 0, 8);
            int h = Due.open(x, "A", mode);
            Due.is("extend", extend(x, "A", 2), 3);
            Due.is("it is open still", x.dataSet(0, 5), 1);
            Due.is("close", x.close(h), 1);
        }
    }

    // "for each DATA SET, by number d, a RECORD: ID 0, 0, d and 1; KEY its NAME; DATA: its KIND, a, b (two bytes each),
    // how many EXTENTS, of each its first TRACK and how many (a byte each)."
    private static void tableOfEach() {
        CountKeyStore x = new CountKeyStore();
        allocate(x, "F", FIXED, 1, 200, 6);
        allocate(x, "V", VARIABLE, 1, 0, 1200);
        allocate(x, "S", SPANNED, 1, 0, 256);
        allocate(x, "D", DIRECT, 1, 8, 400);
        allocate(x, "L", LIBRARY, 70, 60, 20);
        int[][] data = {{0, 0, 200, 0, 6, 1, 1, 1}, {1, 0, 0, 4, 176, 1, 2, 1}, {2, 0, 0, 1, 0, 1, 3, 1},
            {3, 0, 8, 1, 144, 1, 4, 1}, {4, 0, 60, 0, 20, 1, 5, 70}};
        for (int d = 0; d < 5; d++) {
            Due.is("ID", x.record(0, 0, d, 0), 0);
            Due.is("ID", x.record(0, 0, d, 1), 0);
            Due.is("ID", x.record(0, 0, d, 2), d + 1);
            Due.holds("KEY", Due.keyIs(x, 0, 0, d, "FVSDL".charAt(d), 32, 32, 32, 32, 32, 32, 32));
            Due.holds("DATA", Due.dataIs(x, 0, d, data[d]));
            Due.is("place", x.record(0, 0, d, 5), 30 + 46 * d);
        }
        Due.is("no more", x.record(0, 0, 5, 0), NONE);
    }

    // The same, of 4 EXTENTS.
    private static void tableOfFourExtents() {
        CountKeyStore x = holes(1, 2, 2, 1, 1, 3, 1);
        allocate(x, "A", SPANNED, 74, 0, 8);
        Due.holds("DATA", Due.dataIs(x, 0, 1, 2, 0, 0, 0, 8, 4, 2, 2, 6, 1, 8, 3, 12, 68));
    }

    // The same, of ten sets, and of none.
    private static void tableOfTen() {
        CountKeyStore x = new CountKeyStore();
        for (int d = 0; d < 10; d++) {
            allocate(x, "S" + d, FIXED, 1, 1, 1);
        }
        for (int d = 0; d < 10; d++) {
            Due.is("number", x.record(0, 0, d, 2), d + 1);
            Due.is("its track", x.record(0, 0, d, 206), d + 1);
        }
        Due.is("ten", x.record(0, 0, 10, 2), NONE);
        for (int d = 0; d < 10; d++) {
            scratch(x, "S" + (d * 7 + 3) % 10);
            Due.is("one less", x.record(0, 0, 9 - d, 2), NONE);
            Due.is("the others are there", x.record(0, 0, 8 - d, 2) > 0 ? 1 : 0, d < 9 ? 1 : 0);
        }
        Due.is("none", x.record(0, 0, 0, 2), NONE);
    }

    // "TRACK 0 has THE TABLE, written anew at each change of these"
    private static void tableBehindEachChange() {
        CountKeyStore x = new CountKeyStore();
        allocate(x, "A", FIXED, 1, 1, 1);
        x.spoil(0, 0, 0);
        allocate(x, "B", FIXED, 1, 1, 1);
        Due.is("allocate: whole", x.record(0, 0, 0, 6), 0);
        Due.is("B is there", x.record(0, 0, 1, 2), 2);
        x.spoil(0, 0, 0);
        Due.is("extend", extend(x, "A", 2), 3);
        Due.is("extend: whole", x.record(0, 0, 0, 6), 0);
        Due.holds("A's extents", Due.dataIs(x, 0, 0, 0, 0, 1, 0, 1, 2, 1, 1, 3, 2));
        Due.is("B is behind it", x.record(0, 0, 1, 5), 30 + 48);
        x.spoil(0, 0, 1);
        Due.is("scratch", scratch(x, "A"), 0);
        Due.is("scratch: whole", x.record(0, 0, 0, 6), 0);
        Due.is("B is the first", x.record(0, 0, 0, 2), 2);
        Due.is("B is alone", x.record(0, 0, 1, 2), NONE);
        allocate(x, "C", VARIABLE, 1, 0, 9);
        Due.is("C has number 0", x.record(0, 0, 0, 2), 1);
        Due.is("B is behind it", x.record(0, 0, 1, 2), 2);
    }

    // The same: what changes none of these, or is refused, leaves it as it is.
    private static void tableWithoutAChange() {
        CountKeyStore x = new CountKeyStore();
        allocate(x, "A", FIXED, 1, 1, 1);
        allocate(x, "L", LIBRARY, 2, 1, 1);
        x.spoil(0, 0, 0);
        allocate(x, "A", FIXED, 1, 1, 1);
        allocate(x, "X", FIXED, 0, 1, 1);
        allocate(x, "X", FIXED, 79, 1, 1);
        atOnce(x, "X", 79);
        scratch(x, "X");
        extend(x, "X", 1);
        extend(x, "A", 0);
        extend(x, "A", 79);
        int h = Due.open(x, "A", TO_PUT);
        scratch(x, "A");
        Due.put(x, h, 1);
        x.close(h);
        h = Due.open(x, "L", TO_PUT);
        Due.put(x, h, 1);
        Due.stow(x, h, "M");
        x.close(h);
        x.press(1);
        x.drop(1, 0);
        Due.is("it is spoiled still", x.record(0, 0, 0, 6), 1);
        Due.is("two are there", x.record(0, 0, 1, 2), 2);
        Due.is("and no more", x.record(0, 0, 2, 2), NONE);
    }

    // "20 and on: of each EXTENT its first TRACK and how many, in turn. NONE when there is none such."
    private static void dataSetNone() {
        CountKeyStore x = holes(1, 2, 2, 1, 1, 3, 1);
        allocate(x, "ABCDEFGHI", DIRECT, 6, 3, 5);
        int[] due = {DIRECT, 3, 5, 6, 3, 0, 0};
        for (int what = 0; what < 7; what++) {
            Due.is("what " + what, x.dataSet(1, what), due[what]);
        }
        for (int i = 0; i < 8; i++) {
            Due.is("its name", x.dataSet(1, 10 + i), 'A' + i);
        }
        extents(x, 1, 2, 2, 6, 1, 8, 3);
        for (int what : new int[] {-1, 7, 8, 9, 18, 19, 26, 27, 28, 29, 100, MIN, MAX}) {
            Due.is("what " + what, x.dataSet(1, what), NONE);
        }
        for (int what : new int[] {0, 1, 2, 3, 4, 5, 6, 10, 20}) {
            Due.is("set 3", x.dataSet(3, what), NONE);
            Due.is("set -1", x.dataSet(-1, what), NONE);
            Due.is("set 10", x.dataSet(10, what), NONE);
            Due.is("set min", x.dataSet(MIN, what), NONE);
            Due.is("set max", x.dataSet(MAX, what), NONE);
        }
        allocate(x, "R", FIXED, 68, 1, 1);
        Due.is("what 21 of one extent", x.dataSet(3, 21), 68);
        Due.is("what 22 of one extent", x.dataSet(3, 22), NONE);
        x = holes(1, 2, 2, 1, 1, 3, 1);
        allocate(x, "A", FIXED, 74, 1, 1);
        Due.is("what 27 of four extents", x.dataSet(1, 27), 68);
        Due.is("what 28 of four extents", x.dataSet(1, 28), NONE);
    }

    // "5: how often it is open, 6: members (of a LIBRARY, else 0)"
    private static void dataSetHowOftenOpen() {
        CountKeyStore x = new CountKeyStore();
        allocate(x, "A", FIXED, 1, 1, 1);
        allocate(x, "L", LIBRARY, 2, 1, 1);
        for (int n = 1; n <= 3; n++) {
            Due.open(x, "A", TO_GET);
            Due.is("open", x.dataSet(0, 5), n);
        }
        Due.is("of the other", x.dataSet(1, 5), 0);
        int h = Due.open(x, "L", TO_PUT);
        Due.is("of the other", x.dataSet(1, 5), 1);
        Due.is("no members", x.dataSet(1, 6), 0);
        Due.stow(x, h, "M");
        Due.is("one member", x.dataSet(1, 6), 1);
        Due.is("a FIXED one has none", x.dataSet(0, 6), 0);
        x.close(1);
        Due.is("open", x.dataSet(0, 5), 2);
        x.close(h);
        scratch(x, "L");
        allocate(x, "F", FIXED, 1, 1, 1);
        Due.is("what was a LIBRARY", x.dataSet(1, 6), 0);
    }
}
