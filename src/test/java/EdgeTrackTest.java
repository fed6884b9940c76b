/**
 * The boundary cases of terms I (units, tracks, records, TIME), of THE NEXT RECORD, PASSES and arms in
 * terms II, and of promises 8 and 10 to 13; above each test stands the sentence that it asks for.
 */
public final class EdgeTrackTest extends Rig {
    public static void main(String[] args) {
        tracksOfAUnit();
        unitsThatAreNot();
        firstFromPlace30();
        idsOfAnyBytes();
        keysOf0To60();
        dataOf0To1200();
        endsAt1500();
        asManyAsThereAre();
        countOfTwoBytes();
        wholeAgain();
        timeModulo1500();
        onlyProgramsTakeTime();
        armsOfTheirOwn();
        nextUnderTheHeads();
        nextBehindTheIndex();
        nextOfAnEmptyTrack();
        nextAtPlace0();
        passesStay();
        passesAreGone();
        passesOfHomeAndIndex();
        seekTime();
        seekBadPlace();
        headBadPlace();
        pointIsNowhereThen();
        homeAtPlace0();
        homeHolds();
        homeTwice();
        recordNone();
        spoilFalse();
        armRange();
        Due.settle();
    }

    private static void seek(CountKeyStore x, int cylinder, int head) {
        Due.poke(x, 0, cylinder, head);
        Due.is("SEEK", run(x, row(SEEK, 0, 2, 0)), NORMAL);
    }

    // "UNITS 0 and 1 have 20 cylinders (0 .. 19) of 4 heads (0 .. 3): 80 TRACKS, numbered 4 times the cylinder and the head."
    private static void tracksOfAUnit() {
        CountKeyStore x = new CountKeyStore();
        int[][] at = {{0, 0}, {0, 3}, {1, 0}, {9, 2}, {19, 0}, {19, 3}};
        for (int[] place : at) {
            seek(x, place[0], place[1]);
            lay(x, count(1, 2, 3, 0, 0));
            Due.is("its track", x.record(1, 4 * place[0] + place[1], 0, 2), 3);
        }
        int all = 0;
        for (int track = 0; track < 80; track++) {
            all += x.record(1, track, 0, 2) == 3 ? 1 : 0;
            Due.is("unit 0 has none", x.record(0, track, 0, 2), NONE);
        }
        Due.is("six tracks have one", all, 6);
        Due.is("track 79", x.record(1, 79, 0, 2), 3);
        Due.is("track 80", x.record(1, 80, 0, 2), NONE);
        Due.is("track -1", x.record(1, -1, 0, 2), NONE);
    }

    // "THE PROGRAM is done with a UNIT: STATUS; RANGE."
    private static void unitsThatAreNot() {
        CountKeyStore x = new CountKeyStore();
        program(x, row(READ_COUNT, 0, 6, 0));
        for (int unit : new int[] {-1, 2, MIN, MAX}) {
            Due.is("start " + unit, x.start(unit), RANGE);
            ended(x, 0, 0, NONE, 0);
            Due.is("time()", x.time(), 0);
        }
        Due.is("start(0)", x.start(0), NO_RECORD);
        Due.is("start(1)", x.start(1), NO_RECORD);
        Due.is("start(2)", x.start(2), RANGE);
        ended(x, NO_RECORD, 0, 0, 1);
        Due.is("time()", x.time(), 6000);
    }

    // "RECORDS lie on it one behind the other, the first from PLACE 30 on (none at first)."
    private static void firstFromPlace30() {
        CountKeyStore x = new CountKeyStore();
        Due.is("none at first", x.record(1, 0, 0, 5), NONE);
        lay(x, count(0, 0, 1, 0, 0), count(0, 0, 2, 1, 0), count(0, 0, 3, 0, 1), count(0, 0, 4, 60, 300), count(0, 0, 5, 0, 0));
        int[] due = {30, 60, 91, 122, 512};
        for (int k = 0; k < 5; k++) {
            Due.is("it begins", x.record(1, 0, k, 5), due[k]);
        }
        Due.is("no sixth", x.record(1, 0, 5, 5), NONE);
    }

    // "A RECORD has an ID (cylinder, head, number: bytes 0 .. 255, whatever they say)"
    private static void idsOfAnyBytes() {
        CountKeyStore x = new CountKeyStore();
        lay(x, count(255, 255, 255, 0, 0), count(0, 0, 0, 0, 0), count(0, 0, 0, 0, 0));
        for (int what = 0; what < 3; what++) {
            Due.is("255", x.record(1, 0, 0, what), 255);
            Due.is("0", x.record(1, 0, 1, what), 0);
        }
        Due.poke(x, 0, 255, 255, 255);
        Due.is("it is found", run(x, row(ID, 0, 3, 0), row(JUMP, 0, 0, 0), row(READ_DATA, 0, 0, 0)), NORMAL);
        Due.poke(x, 0, 0, 0, 0);
        Due.is("the first of two", run(x, row(HOME, 0, 2, 0), row(JUMP, 0, 0, 0), row(ID, 0, 3, 0), row(JUMP, 2, 0, 0)), NORMAL);
        Due.is("time()", x.time() % 1500, 70);
    }

    private static int lone(int key, int data) {
        CountKeyStore x = new CountKeyStore();
        Due.poke(x, 0, 0, 0);
        Due.poke(x, 10, count(0, 0, 1, key, data));
        int answer = run(x, row(HOME, 0, 2, 0), row(JUMP, 0, 0, 0), row(WRITE_RECORD, 10, 6, ANY));
        Due.is("its key", x.record(1, 0, 0, 3), answer == NORMAL ? key : NONE);
        Due.is("its data", x.record(1, 0, 0, 4), answer == NORMAL ? data : NONE);
        Due.is("time()", x.time(), answer == NORMAL ? 60 + key + data : 30);
        return answer;
    }

    // "a KEY of 0 .. 60 bytes"
    private static void keysOf0To60() {
        Due.is("0", lone(0, 0), NORMAL);
        Due.is("1", lone(1, 0), NORMAL);
        Due.is("60", lone(60, 0), NORMAL);
        Due.is("61", lone(61, 0), BAD_COUNT);
        Due.is("128", lone(128, 0), BAD_COUNT);
        Due.is("255", lone(255, 0), BAD_COUNT);
    }

    // "DATA of 0 .. 1200 bytes"
    private static void dataOf0To1200() {
        Due.is("1", lone(0, 1), NORMAL);
        Due.is("255", lone(0, 255), NORMAL);
        Due.is("256", lone(0, 256), NORMAL);
        Due.is("1200", lone(0, 1200), NORMAL);
        Due.is("1200 and a key of 60", lone(60, 1200), NORMAL);
        Due.is("1201", lone(0, 1201), BAD_COUNT);
        Due.is("65535", lone(60, 65535), BAD_COUNT);
        Due.is("1201 and a key of 61", lone(61, 1201), BAD_COUNT);
    }

    // "and takes 30 PLACES and one for each of these bytes; its end (the PLACE behind it) is 1500 at most."
    private static void endsAt1500() {
        for (int key = 0; key <= 60; key += 60) {
            CountKeyStore x = new CountKeyStore();
            Due.poke(x, 0, 0, 0);
            // It ends at 1320: 180 places are left.
            Due.poke(x, 10, count(0, 0, 1, 60, 1200));
            Due.poke(x, 20, count(0, 0, 2, key, 150 - key));
            Due.poke(x, 30, count(0, 0, 2, key, 151 - key));
            int[][] rows = {row(HOME, 0, 2, 0), row(JUMP, 0, 0, 0), row(WRITE_RECORD, 10, 6, ANY), row(WRITE_RECORD, 30, 6, ANY)};
            Due.is("one place more", run(x, rows), TRACK_FULL);
            Due.is("it is not there", x.record(1, 0, 1, 5), NONE);
            Due.is("time() is behind the first", x.time(), 1320);
            rows[3] = row(WRITE_RECORD, 20, 6, ANY);
            Due.is("to 1500", run(x, rows), NORMAL);
            Due.is("it is there", x.record(1, 0, 1, 5), 1320);
            Due.is("1500 is the place 0", x.time(), 3000);
            Due.poke(x, 40, count(0, 0, 3, 0, 0));
            Due.is("none behind it", run(x, rows[0], rows[1], rows[2], rows[3], row(WRITE_RECORD, 40, 6, 0)), TRACK_FULL);
        }
    }

    // The same, of as many RECORDS as a TRACK can have.
    private static void asManyAsThereAre() {
        CountKeyStore x = new CountKeyStore();
        Due.poke(x, 0, 0, 0);
        Due.poke(x, 10, count(0, 0, 1, 0, 0));
        int[][] rows = new int[31][];
        rows[0] = row(HOME, 0, 2, 0);
        rows[1] = row(JUMP, 0, 0, 0);
        for (int i = 2; i < 31; i++) {
            rows[i] = row(WRITE_RECORD, 10, 6, 0);
        }
        Due.poke(x, 20, count(0, 0, 2, 0, 0));
        rows[30] = row(WRITE_RECORD, 20, 6, 0);
        Due.is("29", run(x, rows), NORMAL);
        Due.poke(x, 0, 0, 0, 2);
        rows[0] = row(ID, 0, 3, 0);
        rows[30] = row(WRITE_RECORD, 10, 6, 0);
        Due.is("20 more and none", run(x, rows), TRACK_FULL);
        ended(x, TRACK_FULL, 0, 22, x.status(3));
        Due.is("the 49th", x.record(1, 0, 48, 5), 1470);
        Due.is("no 50th", x.record(1, 0, 49, 5), NONE);
        Due.is("time() is at 1500", x.time() % 1500, 0);
    }

    // "Its COUNT is six bytes: the ID, the KEY's length, the DATA's (two bytes, the higher first)."
    private static void countOfTwoBytes() {
        CountKeyStore x = new CountKeyStore();
        lay(x, row(1, 2, 3, 4, 1, 2));
        Due.is("the key's", x.record(1, 0, 0, 3), 4);
        Due.is("the data's", x.record(1, 0, 0, 4), 258);
        Due.is("READ COUNT", run(x, row(READ_COUNT, 100, 6, 0)), NORMAL);
        int[] due = {1, 2, 3, 4, 1, 2};
        for (int i = 0; i < 6; i++) {
            Due.is("byte " + i, x.memory(100 + i), due[i]);
        }
    }

    // "It may be SPOILED; what writes its DATA makes it whole again."
    private static void wholeAgain() {
        CountKeyStore x = three();
        for (int k = 0; k < 3; k++) {
            Due.is("whole", x.record(1, 0, k, 6), 0);
            x.spoil(1, 0, k);
            Due.is("spoiled", x.record(1, 0, k, 6), 1);
        }
        Due.poke(x, 0, 0, 0, 1, 7, 8, 9, 50, 51, 52);
        run(x, row(READ_COUNT, 100, 6, 0));
        run(x, row(READ_ALL, 100, 9, 0));
        run(x, row(READ_KEY, 100, 9, ANY));
        run(x, row(KEY, 0, 3, 0));
        for (int k = 0; k < 3; k++) {
            Due.is("reading does not", x.record(1, 0, k, 6), 1);
        }
        Due.is("WRITE DATA", run(x, row(ID, 0, 3, 0), row(JUMP, 0, 0, 0), row(WRITE_DATA, 6, 1, 0)), NORMAL);
        Due.is("A is whole", x.record(1, 0, 0, 6), 0);
        Due.is("B is not", x.record(1, 0, 1, 6), 1);
        Due.is("WRITE DATA of none", run(x, row(ID, 3, 3, 0), row(JUMP, 0, 0, 0), row(WRITE_DATA, 6, 0, 0)), NORMAL);
        Due.is("C is whole", x.record(1, 0, 2, 6), 0);
        x.spoil(1, 0, 2);
        Due.is("WRITE KEY", run(x, row(ID, 3, 3, 0), row(JUMP, 0, 0, 0), row(WRITE_KEY, 6, 3, 0)), WRONG_LENGTH);
        Due.is("C is whole", x.record(1, 0, 2, 6), 0);
        x.spoil(1, 0, 2);
        Due.poke(x, 20, count(0, 0, 4, 0, 0));
        Due.is("WRITE RECORD", run(x, row(ID, 3, 3, 0), row(JUMP, 0, 0, 0), row(WRITE_RECORD, 20, 6, 0)), NORMAL);
        Due.is("C stays spoiled", x.record(1, 0, 2, 6), 1);
        Due.is("the new one is whole", x.record(1, 0, 3, 6), 0);
        Due.is("ERASE", run(x, row(ID, 3, 3, 0), row(JUMP, 0, 0, 0), row(ERASE, 0, 0, 0)), NORMAL);
        Due.is("C stays spoiled", x.record(1, 0, 2, 6), 1);
        // Where a spoiled one lay there comes a whole one.
        Due.is("WRITE RECORD", run(x, row(ID, 0, 3, 0), row(JUMP, 0, 0, 0), row(WRITE_RECORD, 20, 6, 0),
                row(WRITE_RECORD, 20, 6, 0)), NORMAL);
        Due.is("whole", x.record(1, 0, 1, 6), 0);
        Due.is("whole", x.record(1, 0, 2, 6), 0);
    }

    // "TIME is counted in PLACES, from 0 on; under the heads is the PLACE TIME modulo 1500."
    private static void timeModulo1500() {
        // The second record ends at 1499, at 1500, or the turn is new.
        int[][] due = {{208, 1498, 1530}, {209, 1499, 1530}, {210, 1500, 1530}};
        for (int[] d : due) {
            CountKeyStore x = new CountKeyStore();
            lay(x, count(0, 0, 1, 0, 1200), count(0, 0, 2, 0, d[0]));
            Due.is("time()", x.time(), d[1]);
            Due.poke(x, 0, 0, 0);
            Due.is("HOME", run(x, row(HOME, 0, 2, 0)), NORMAL);
            Due.is("time()", x.time(), d[2]);
        }
        CountKeyStore x = three();
        for (int turn = 1; turn <= 5; turn++) {
            Due.is("READ COUNT", run(x, row(READ_COUNT, 100, 6, 0), row(READ_ALL, 110, 9, ANY), row(READ_ALL, 110, 9, ANY)), NORMAL);
            Due.is("A", x.memory(102), 1);
            Due.is("time()", x.time(), 1500L * turn + 126);
        }
    }

    // "Only channel programs take TIME."
    private static void onlyProgramsTakeTime() {
        CountKeyStore x = new CountKeyStore();
        Due.poke(x, 0, 1, 0);
        Due.is("SEEK", run(x, row(SEEK, 0, 2, 0)), NORMAL);
        Due.is("time()", x.time(), 70);
        Due.allocate(x, "L", LIBRARY, 2, 1, 1);
        Due.allocate(x, "D", DIRECT, 2, 1, 1);
        Due.allocate(x, "F", FIXED, 1, 1, 1);
        Due.fill(x, "F");
        x.extend(1);
        int h = Due.open(x, "L", TO_PUT);
        Due.put(x, h, 1);
        Due.stow(x, h, "M");
        x.close(h);
        h = Due.open(x, "L", TO_GET);
        Due.member(x, h, "M");
        x.get(h);
        x.close(h);
        x.memberAt(0, 0);
        x.drop(0, 0);
        x.press(0);
        h = Due.open(x, "D", TO_CHANGE);
        Due.fill(x, 1, 1);
        x.putKeyed(h);
        Due.fill(x, 1);
        x.getKeyed(h);
        x.close(h);
        h = Due.open(x, "F", TO_PUT);
        Due.put(x, h, 1);
        x.close(h);
        h = Due.open(x, "F", TO_CHANGE);
        x.get(h);
        Due.fill(x, 2);
        x.rewrite(h);
        x.close(h);
        Due.fill(x, "F");
        x.scratch();
        x.record(1, 0, 0, 0);
        x.spoil(0, 0, 0);
        x.start(2);
        Due.is("bad", run(x, row(SEEK, 0, 2, 0), row(JUMP, 0, 0, 0)), BAD_PROGRAM);
        Due.is("time()", x.time(), 70);
    }

    // "Each UNIT has an arm at a cylinder and a head that is chosen (0, 0 at first)."
    private static void armsOfTheirOwn() {
        CountKeyStore x = new CountKeyStore();
        Due.poke(x, 0, 5, 2);
        program(x, row(SEEK, 0, 2, 0));
        Due.is("start(0)", x.start(0), NORMAL);
        Due.is("unit 0", x.arm(0, 0) * 10 + x.arm(0, 1), 52);
        Due.is("unit 1", x.arm(1, 0) * 10 + x.arm(1, 1), 0);
        Due.is("time()", x.time(), 150);
        Due.is("start(1)", x.start(1), NORMAL);
        Due.is("unit 1 had its own way", x.time(), 300);
        program(x, row(HEAD, 0, 1, 0));
        Due.is("HEAD 5", x.start(1), BAD_PLACE);
        program(x, row(HEAD, 1, 1, 0));
        Due.is("start(1)", x.start(1), NORMAL);
        Due.is("unit 0", x.arm(0, 0) * 10 + x.arm(0, 1), 52);
    }

    // "THE NEXT RECORD: the first that begins at the PLACE under the heads or behind it; TIME goes on to its beginning."
    private static void nextUnderTheHeads() {
        // On head 0 a record ends at 70; on head 1 the second begins at 69, 70 or 71.
        int[][] due = {{9, 1, 1540}, {10, 2, 80}, {11, 2, 81}};
        for (int[] d : due) {
            CountKeyStore x = new CountKeyStore();
            lay(x, count(0, 0, 7, 0, 10));
            Due.poke(x, 0, 0, 0, 0, 1);
            Due.is("HEAD 1", run(x, row(HEAD, 3, 1, 0)), NORMAL);
            lay(x, count(0, 1, 1, 0, d[0]), count(0, 1, 2, 0, 0));
            long turn = x.time() - x.time() % 1500 + 1500;
            Due.is("both", run(x, row(HEAD, 2, 1, 0), row(HOME, 0, 2, 0), row(JUMP, 1, 0, 0), row(READ_ALL, 100, 16, 0),
                    row(HEAD, 3, 1, 0), row(READ_COUNT, 200, 6, 0)), NORMAL);
            Due.is("which", x.memory(202), d[1]);
            Due.is("time()", x.time(), turn + d[2]);
        }
    }

    // "If there is none the INDEX is passed: TIME goes on to the next PLACE 0 ..., PASSES are 1 more; ... else it is looked for from there."
    private static void nextBehindTheIndex() {
        CountKeyStore x = three();
        Due.is("none behind 126", run(x, row(READ_COUNT, 100, 6, 0)), NORMAL);
        Due.is("A", x.memory(102), 1);
        Due.is("time()", x.time(), 1540);
        // At the beginning of C and ten behind it: the index comes again.
        Due.is("all three", run(x, row(READ_COUNT, 100, 6, 0), row(READ_COUNT, 100, 6, 0), row(READ_COUNT, 110, 6, 0)), NORMAL);
        Due.is("C", x.memory(102), 9);
        Due.is("A", x.memory(112), 1);
        Due.is("time()", x.time(), 3040);
    }

    // "TIME goes on to the next PLACE 0 (by a whole turn, if it is there), ... with 2 of them the program ends there: NO RECORD"
    private static void nextOfAnEmptyTrack() {
        int[] ops = {ID, KEY, HIGH, READ_COUNT, READ_KEY, READ_DATA, READ_ALL};
        for (int op : ops) {
            CountKeyStore x = new CountKeyStore();
            int length = op == ID ? 3 : 1;
            Due.is("from the index", run(x, row(op, 100, length, 0), row(NOTHING, 0, 0, 0)), NO_RECORD);
            ended(x, NO_RECORD, 0, 0, 1);
            Due.is("two whole turns", x.time(), 3000);
            Due.poke(x, 0, 1, 0);
            Due.is("SEEK", run(x, row(SEEK, 0, 2, 0)), NORMAL);
            Due.is("time()", x.time(), 3070);
            Due.is("from 70", run(x, row(NOTHING, 0, 0, 0), row(op, 100, length, 0)), NO_RECORD);
            ended(x, NO_RECORD, 0, 1, 2);
            Due.is("to the index and a turn", x.time(), 6000);
            Due.is("nothing was read", x.memory(100), 0);
        }
    }

    // The PLACE 0 itself is ahead of the first RECORD: no INDEX is passed.
    private static void nextAtPlace0() {
        CountKeyStore x = new CountKeyStore();
        lay(x, count(0, 0, 1, 60, 1200), count(0, 0, 2, 0, 150));
        Due.is("at the index", x.time(), 1500);
        Due.poke(x, 0, 9, 9, 9);
        Due.is("two, and each once more", run(x, row(ID, 0, 3, 0), row(JUMP, 0, 0, 0)), NO_RECORD);
        // Both at the first turn, the index, both again, the index: 4 searches and the one that ended.
        ended(x, NO_RECORD, 0, 0, 9);
        Due.is("time()", x.time(), 4500);
        Due.is("READ ALL to 1500", run(x, row(READ_ALL, 100, 6, ANY), row(READ_ALL, 100, 6, ANY), row(READ_COUNT, 100, 6, 0)), NORMAL);
        Due.is("the first", x.memory(102), 1);
        Due.is("time()", x.time(), 6040);
    }

    /** The wrong home twice, with something between; the second ends the program if the passes stayed. */
    private static int homesAround(CountKeyStore x, int[]... between) {
        int[][] rows = new int[between.length + 2][];
        Due.poke(x, 500, 19, 3);
        rows[0] = row(HOME, 500, 2, 0);
        System.arraycopy(between, 0, rows, 1, between.length);
        rows[between.length + 1] = row(HOME, 500, 2, 0);
        return run(x, rows);
    }

    // "PASSES are 0 at first and behind each COMMAND but SEARCHES, JUMP and NOTHING."
    private static void passesStay() {
        CountKeyStore x = three();
        Due.poke(x, 0, 0, 0, 1, 1, 2, 0, 0, 0);
        Due.is("with none between", homesAround(x), NO_RECORD);
        ended(x, NO_RECORD, 0, 1, 2);
        Due.is("NOTHING", homesAround(x, row(NOTHING, 0, 0, 0)), NO_RECORD);
        Due.is("an ID that does not hold", homesAround(x, row(ID, 4, 3, 0)), NO_RECORD);
        Due.is("a KEY that does not hold", homesAround(x, row(KEY, 4, 1, 0)), NO_RECORD);
        Due.is("a HIGH that does not hold", homesAround(x, row(HIGH, 4, 1, 0)), NO_RECORD);
        Due.is("an ID that holds", homesAround(x, row(ID, 0, 3, 0), row(JUMP, 1, 0, 0)), NO_RECORD);
        Due.is("a KEY that holds", homesAround(x, row(KEY, 3, 2, 0), row(JUMP, 1, 0, 0)), NO_RECORD);
        Due.is("a HIGH that holds", homesAround(x, row(HIGH, 3, 2, 0), row(JUMP, 1, 0, 0)), NO_RECORD);
        Due.is("a HOME that holds", homesAround(x, row(HOME, 0, 2, 0), row(JUMP, 1, 0, 0)), NO_RECORD);
        ended(x, NO_RECORD, 0, 3, 3);
        Due.is("a JUMP", run(x, row(HOME, 500, 2, 0), row(JUMP, 0, 0, 0)), NO_RECORD);
        ended(x, NO_RECORD, 0, 0, 3);
        Due.is("a new program has 0", run(x, row(HOME, 500, 2, 0)), NORMAL);
        Due.is("and once more", run(x, row(HOME, 500, 2, 0)), NORMAL);
    }

    // The same: each other COMMAND makes them 0.
    private static void passesAreGone() {
        CountKeyStore x = three();
        Due.poke(x, 0, 0, 0, 1, 1, 2, 0, 0, 0);
        Due.poke(x, 20, count(0, 0, 9, 0, 0));
        Due.is("SEEK", homesAround(x, row(SEEK, 0, 2, 0)), NORMAL);
        Due.is("HEAD", homesAround(x, row(HEAD, 0, 1, 0)), NORMAL);
        for (int op = READ_COUNT; op <= READ_ALL; op++) {
            Due.is("op " + op, homesAround(x, row(op, 100, 6, ANY)), NORMAL);
        }
        Due.is("WRITE DATA", homesAround(x, row(ID, 0, 3, 0), row(JUMP, 1, 0, 0), row(WRITE_DATA, 100, 1, 0)), NORMAL);
        Due.is("WRITE KEY", homesAround(x, row(ID, 0, 3, 0), row(JUMP, 1, 0, 0), row(WRITE_KEY, 3, 3, 0)), NORMAL);
        Due.is("ERASE", homesAround(x, row(ID, 0, 3, 0), row(JUMP, 1, 0, 0), row(ERASE, 0, 0, 0)), NORMAL);
        Due.is("WRITE RECORD", homesAround(x, row(ID, 0, 3, 0), row(JUMP, 1, 0, 0), row(WRITE_RECORD, 20, 6, 0)), NORMAL);
        ended(x, NORMAL, 0, 4, 4);
        // A read that passed the index itself leaves none of that.
        Due.is("three reads", run(x, row(READ_ALL, 100, 9, ANY), row(READ_ALL, 100, 9, ANY), row(READ_ALL, 100, 9, ANY),
                row(READ_ALL, 100, 9, ANY), row(READ_ALL, 100, 9, ANY), row(READ_ALL, 100, 9, ANY), row(READ_ALL, 100, 9, ANY)), NORMAL);
    }

    // The PASSES of a HOME and of the INDEX are the same ones.
    private static void passesOfHomeAndIndex() {
        CountKeyStore x = new CountKeyStore();
        Due.poke(x, 500, 19, 3);
        Due.is("on an empty track", run(x, row(HOME, 500, 2, 0), row(READ_COUNT, 100, 6, 0)), NO_RECORD);
        ended(x, NO_RECORD, 0, 1, 2);
        Due.is("the index once", x.time(), 1500);
        x = three();
        Due.poke(x, 500, 19, 3);
        Due.is("an ID over the index, then a HOME", run(x, row(ID, 500, 3, 0), row(HOME, 500, 2, 0)), NO_RECORD);
        ended(x, NO_RECORD, 0, 1, 2);
        Due.is("time()", x.time(), 3030);
        Due.is("a HOME, then an ID over the index", run(x, row(HOME, 500, 2, 0), row(ID, 500, 3, 0), row(JUMP, 1, 0, 0)), NO_RECORD);
        Due.is("time()", x.time(), 6000);
        ended(x, NO_RECORD, 0, 1, 8);
    }

    // "else TIME grows by 50, and 20 for each cylinder from the one to the other (by nothing, if that is the same)."
    private static void seekTime() {
        int[][] ways = {{0, 0, 0}, {0, 3, 0}, {1, 0, 70}, {0, 0, 70}, {19, 3, 430}, {19, 0, 0}, {0, 1, 430}, {10, 0, 250}, {8, 0, 90}};
        CountKeyStore x = new CountKeyStore();
        long time = 0;
        for (int[] way : ways) {
            seek(x, way[0], way[1]);
            time += way[2];
            Due.is("to " + way[0] + " " + way[1], x.time(), time);
            Due.is("cylinder", x.arm(1, 0), way[0]);
            Due.is("head", x.arm(1, 1), way[1]);
        }
    }

    // "SEEK: two bytes of MEMORY are the cylinder and the head; if there is no such: BAD PLACE"
    private static void seekBadPlace() {
        CountKeyStore x = new CountKeyStore();
        seek(x, 3, 2);
        for (int[] bad : new int[][] {{20, 0}, {0, 4}, {20, 4}, {255, 0}, {0, 255}, {128, 128}}) {
            Due.poke(x, 0, bad);
            Due.is("SEEK " + bad[0] + " " + bad[1], run(x, row(NOTHING, 0, 0, 0), row(SEEK, 0, 2, 0), row(NOTHING, 0, 0, 0)), BAD_PLACE);
            ended(x, BAD_PLACE, 0, 1, 2);
            Due.is("the arm stays", x.arm(1, 0) * 10 + x.arm(1, 1), 32);
            Due.is("time() too", x.time(), 110);
        }
        seek(x, 19, 3);
        Due.is("the last of both", x.arm(1, 0) * 10 + x.arm(1, 1), 193);
        // The two bytes are the last of the memory.
        Due.poke(x, 2046, 1, 1);
        Due.is("SEEK", run(x, row(SEEK, 2046, 2, 0)), NORMAL);
        Due.is("the arm", x.arm(1, 0) * 10 + x.arm(1, 1), 11);
    }

    // "HEAD: one byte, likewise, without TIME."
    private static void headBadPlace() {
        CountKeyStore x = new CountKeyStore();
        seek(x, 3, 2);
        for (int bad : new int[] {4, 5, 128, 255}) {
            Due.poke(x, 0, bad);
            Due.is("HEAD " + bad, run(x, row(HEAD, 0, 1, 0), row(NOTHING, 0, 0, 0)), BAD_PLACE);
            ended(x, BAD_PLACE, 0, 0, 1);
            Due.is("the arm stays", x.arm(1, 0) * 10 + x.arm(1, 1), 32);
        }
        for (int head = 3; head >= 0; head--) {
            Due.poke(x, 2047, head);
            Due.is("HEAD " + head, run(x, row(HEAD, 2047, 1, 0)), NORMAL);
            Due.is("the arm", x.arm(1, 0) * 10 + x.arm(1, 1), 30 + head);
        }
        Due.is("time()", x.time(), 110);
    }

    // "POINT is nowhere then." (of SEEK and HEAD)
    private static void pointIsNowhereThen() {
        int[][] ways = {row(SEEK, 0, 2, 0), row(HEAD, 0, 1, 0)};
        for (int[] way : ways) {
            CountKeyStore x = three();
            Due.poke(x, 0, 0, 0);
            Due.is("behind a COUNT", run(x, row(READ_COUNT, 100, 6, 0), way, row(READ_DATA, 110, 2, 0)), NORMAL);
            Due.is("A", x.memory(102), 1);
            Due.is("then B", x.memory(110), 4);
            Due.is("time()", x.time(), 1595);
            x = three();
            Due.is("behind a KEY", run(x, row(KEY, 900, 1, 0), way, row(READ_DATA, 110, 2, 0)), NORMAL);
            Due.is("then B", x.memory(110), 4);
            Due.is("time()", x.time(), 1595);
        }
    }

    // "HOME: TIME goes on to the next PLACE 0 (not at all, if it is there), and by 30"
    private static void homeAtPlace0() {
        CountKeyStore x = new CountKeyStore();
        Due.poke(x, 0, 0, 0);
        Due.is("HOME", run(x, row(HOME, 0, 2, 0)), NORMAL);
        Due.is("from the place 0", x.time(), 30);
        Due.is("HOME", run(x, row(HOME, 0, 2, 0)), NORMAL);
        Due.is("from 30", x.time(), 1530);
        Due.is("NO RECORD", run(x, row(READ_COUNT, 0, 6, 0)), NO_RECORD);
        Due.is("at the index", x.time(), 4500);
        Due.is("HOME", run(x, row(HOME, 0, 2, 0)), NORMAL);
        Due.is("from the place 0", x.time(), 4530);
    }

    // "it HOLDS if the two bytes are the arm's cylinder and the head; POINT is at the HOME."
    private static void homeHolds() {
        CountKeyStore x = new CountKeyStore();
        seek(x, 3, 2);
        int[][] bytes = {{3, 2}, {3, 1}, {2, 2}, {2, 3}, {0, 0}};
        for (int i = 0; i < bytes.length; i++) {
            Due.poke(x, 0, bytes[i]);
            Due.is("HOME", run(x, row(HOME, 0, 2, 0), row(NOTHING, 0, 0, 0), row(NOTHING, 0, 0, 0)), NORMAL);
            ended(x, NORMAL, 0, 2, i == 0 ? 2 : 3);
        }
        // The point is there even if it does not hold: the first record is the next one.
        lay(x, row(0, 0, 1, 0, 0, 1, 88));
        Due.poke(x, 0, 0, 0);
        Due.is("HOME, READ DATA", run(x, row(READ_COUNT, 100, 6, 0), row(HOME, 0, 2, 0), row(READ_DATA, 100, 1, 0)), NORMAL);
        Due.is("the data", x.memory(100), 88);
        Due.is("time()", x.time() % 1500, 61);
    }

    // "If it doesn't, PASSES are 1 more; with 2 of them the program ends behind it: NO RECORD."
    private static void homeTwice() {
        CountKeyStore x = new CountKeyStore();
        Due.poke(x, 0, 0, 1);
        Due.is("once", run(x, row(HOME, 0, 2, 0)), NORMAL);
        ended(x, NORMAL, 0, 0, 1);
        Due.is("time()", x.time(), 30);
        Due.is("twice", run(x, row(HOME, 0, 2, 0), row(HOME, 0, 2, 0), row(NOTHING, 0, 0, 0)), NO_RECORD);
        ended(x, NO_RECORD, 0, 1, 2);
        Due.is("behind it", x.time(), 3030);
    }

    // "Of RECORD k, from 0 on, of a TRACK, ... NONE when there is none such."
    private static void recordNone() {
        CountKeyStore x = new CountKeyStore();
        int[] bytes = new int[6 + 60 + 100];
        System.arraycopy(count(11, 12, 13, 60, 100), 0, bytes, 0, 6);
        bytes[6] = 201;
        bytes[65] = 202;
        bytes[66] = 203;
        bytes[165] = 204;
        lay(x, bytes, count(1, 1, 1, 0, 0));
        int[] due = {11, 12, 13, 60, 100, 30, 0};
        for (int what = 0; what < 7; what++) {
            Due.is("what " + what, x.record(1, 0, 0, what), due[what]);
        }
        int[][] edges = {{100, 201}, {159, 202}, {200, 203}, {299, 204}, {-1, NONE}, {7, NONE}, {99, NONE}, {160, NONE},
            {199, NONE}, {300, NONE}, {MIN, NONE}, {MAX, NONE}};
        for (int[] edge : edges) {
            Due.is("what " + edge[0], x.record(1, 0, 0, edge[0]), edge[1]);
        }
        Due.is("no key", x.record(1, 0, 1, 100), NONE);
        Due.is("no data", x.record(1, 0, 1, 200), NONE);
        for (int what : new int[] {0, 3, 5, 6, 100, 200}) {
            Due.is("k 2", x.record(1, 0, 2, what), NONE);
            Due.is("k -1", x.record(1, 0, -1, what), NONE);
            Due.is("k max", x.record(1, 0, MAX, what), NONE);
            Due.is("k min", x.record(1, 0, MIN, what), NONE);
            Due.is("track 1", x.record(1, 1, 0, what), NONE);
            Due.is("track 80", x.record(1, 80, 0, what), NONE);
            Due.is("track -1", x.record(1, -1, 0, what), NONE);
            Due.is("unit 0", x.record(0, 0, 0, what), NONE);
            Due.is("unit 2", x.record(2, 0, 0, what), NONE);
            Due.is("unit -1", x.record(-1, 0, 0, what), NONE);
        }
        Due.poke(x, 0, 0, 0);
        Due.is("ERASE", run(x, row(HOME, 0, 2, 0), row(JUMP, 0, 0, 0), row(ERASE, 0, 0, 0)), NORMAL);
        Due.is("gone", x.record(1, 0, 0, 0), NONE);
    }

    // "RECORD k of a TRACK is SPOILED: true; false when there is none such."
    private static void spoilFalse() {
        CountKeyStore x = three();
        int[][] none = {{1, 0, 3}, {1, 0, -1}, {1, 1, 0}, {1, 80, 0}, {1, -1, 0}, {0, 0, 0}, {2, 0, 0}, {-1, 0, 0},
            {1, 0, MAX}, {1, 0, MIN}, {MAX, MAX, MAX}, {MIN, MIN, MIN}};
        for (int[] at : none) {
            Due.is("spoil", x.spoil(at[0], at[1], at[2]) ? 1 : 0, 0);
        }
        for (int k = 0; k < 3; k++) {
            Due.is("nothing is spoiled", x.record(1, 0, k, 6), 0);
        }
        Due.is("the last", x.spoil(1, 0, 2) ? 1 : 0, 1);
        Due.is("again", x.spoil(1, 0, 2) ? 1 : 0, 1);
        Due.is("the last is", x.record(1, 0, 2, 6), 1);
        Due.is("that ahead is not", x.record(1, 0, 1, 6), 0);
        Due.allocate(x, "A", FIXED, 1, 1, 1);
        Due.is("of unit 0 too", x.spoil(0, 0, 0) ? 1 : 0, 1);
        Due.is("the table's", x.record(0, 0, 0, 6), 1);
    }

    // "Of the arm of a UNIT, what 0: the cylinder, 1: the head; RANGE for others."
    private static void armRange() {
        CountKeyStore x = new CountKeyStore();
        for (int[] at : new int[][] {{-1, 0}, {2, 0}, {0, -1}, {0, 2}, {1, -1}, {1, 2}, {MIN, 0}, {MAX, 1}, {0, MIN}, {0, MAX}}) {
            Due.is("arm " + at[0] + " " + at[1], x.arm(at[0], at[1]), RANGE);
        }
    }
}
