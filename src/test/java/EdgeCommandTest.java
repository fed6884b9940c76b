/**
 * The boundary cases of the SEARCHES, READS and WRITES of terms II: what holds, WRONG LENGTH with and
 * without ANY, RESIDUAL, DATA CHECK, BAD COUNT, TRACK FULL; above each test stands its sentence.
 */
public final class EdgeCommandTest extends Rig {
    public static void main(String[] args) {
        idHolds();
        keyHolds();
        highHolds();
        highAsBytes();
        longestKeys();
        keyAtACount();
        skipsTheOneBehind();
        skipsBehindTheLast();
        jumpComesNext();
        pointOfReadCount();
        pointOfReadKey();
        pointOfReadData();
        pointOfReadAll();
        pointBehindThese();
        pointIsNowhereAtFirst();
        readLengths();
        readsOfNothing();
        readsToTheEndOfMemory();
        readsFarLonger();
        endsBehindTheCommand();
        residualOfTheLast();
        dataCheckGoesAhead();
        dataCheckWithoutBytes();
        dataCheckOfNoOther();
        writeDataLengths();
        writeDataOfNone();
        writeDataTimes();
        writeKeyLengths();
        writeRecordLengths();
        writeRecordInPlaceOfAll();
        writeRecordAtItsEnd();
        badCount();
        badCountGoesAhead();
        trackFull();
        eraseBehind();
        eraseAtTheHome();
        eraseAtTheEnd();
        nothingKeepsThePoint();
        Due.settle();
    }

    private static final int[] FROM_HOME = {HOME, 900, 2, 0};

    /** A program from the home on; 900 .. 901 of the memory are 0. */
    private static int fromHome(CountKeyStore x, int[]... rows) {
        int[][] all = new int[rows.length + 2][];
        all[0] = FROM_HOME;
        all[1] = row(JUMP, 0, 0, 0);
        System.arraycopy(rows, 0, all, 2, rows.length);
        return run(x, all);
    }

    private static CountKeyStore with(int[]... records) {
        CountKeyStore x = new CountKeyStore();
        lay(x, records);
        return x;
    }

    /** 1 if a search for these bytes holds at the first record. */
    private static int holds(CountKeyStore x, int op, int... bytes) {
        Due.poke(x, 0, bytes);
        Due.is("start(1)", fromHome(x, row(op, 0, bytes.length, 0), row(NOTHING, 0, 0, 0), row(NOTHING, 0, 0, 0)), NORMAL);
        return x.status(3) == 3 ? 1 : 0;
    }

    // "it HOLDS if the three bytes are its ID"
    private static void idHolds() {
        CountKeyStore x = with(count(5, 200, 7, 0, 0));
        Due.is("its ID", holds(x, ID, 5, 200, 7), 1);
        Due.is("another cylinder", holds(x, ID, 6, 200, 7), 0);
        Due.is("another head", holds(x, ID, 5, 199, 7), 0);
        Due.is("another number", holds(x, ID, 5, 200, 8), 0);
    }

    // "KEY HOLDS if its KEY is the LENGTH bytes"
    private static void keyHolds() {
        CountKeyStore x = with(row(0, 0, 1, 3, 0, 1, 10, 200, 30, 40));
        Due.is("its KEY", holds(x, KEY, 10, 200, 30), 1);
        Due.is("its first byte", holds(x, KEY, 11, 200, 30), 0);
        Due.is("its last byte", holds(x, KEY, 10, 200, 31), 0);
        Due.is("one less", holds(x, KEY, 10, 200), 0);
        Due.is("one more, which is the data", holds(x, KEY, 10, 200, 30, 40), 0);
        x = with(row(0, 0, 1, 0, 0, 1, 10));
        Due.is("no KEY", holds(x, KEY, 10), 0);
    }

    // "HIGH, if it has as many and is them, or greater than they"
    private static void highHolds() {
        CountKeyStore x = with(row(0, 0, 1, 3, 0, 1, 10, 200, 30, 40));
        Due.is("is them", holds(x, HIGH, 10, 200, 30), 1);
        Due.is("greater by the last", holds(x, HIGH, 10, 200, 29), 1);
        Due.is("less by the last", holds(x, HIGH, 10, 200, 31), 0);
        Due.is("one less", holds(x, HIGH, 10, 200), 0);
        Due.is("one less, and greater", holds(x, HIGH, 1, 1), 0);
        Due.is("one more", holds(x, HIGH, 10, 200, 30, 40), 0);
        Due.is("one more, and greater", holds(x, HIGH, 1, 1, 1, 1), 0);
        x = with(row(0, 0, 1, 0, 0, 1, 10));
        Due.is("no KEY", holds(x, HIGH, 0), 0);
    }

    // "(as bytes, from the first on)"
    private static void highAsBytes() {
        CountKeyStore x = with(row(0, 0, 1, 2, 0, 0, 128, 0));
        Due.is("128 is above 127", holds(x, HIGH, 127, 255), 1);
        Due.is("128 is below 129", holds(x, HIGH, 129, 0), 0);
        Due.is("the first decides", holds(x, HIGH, 128, 1), 0);
        Due.is("the same", holds(x, HIGH, 128, 0), 1);
        x = with(row(0, 0, 1, 2, 0, 0, 0, 255));
        Due.is("the first is greater", holds(x, HIGH, 1, 0), 0);
        Due.is("255 is the greatest", holds(x, HIGH, 0, 128), 1);
    }

    // "a KEY of 0 .. 60 bytes" and "1 .. 60 of KEY and HIGH"
    private static void longestKeys() {
        CountKeyStore x = with(Due.join(count(0, 0, 1, 60, 2), Due.row(62, 1)));
        int[] key = Due.row(60, 1);
        Due.is("KEY", holds(x, KEY, key), 1);
        Due.is("HIGH", holds(x, HIGH, key), 1);
        key[59]++;
        Due.is("KEY", holds(x, KEY, key), 0);
        Due.is("HIGH", holds(x, HIGH, key), 0);
        Due.is("of 59", holds(x, KEY, Due.row(59, 1)), 0);
        x.command(2, KEY, 0, 60, 0);
        Due.is("from the home", x.start(1), NORMAL);
        Due.is("10, and 10 and its bytes", x.time() % 1500, 30 + 10 + 10 + 60);
    }

    // "KEY, HIGH: the RECORD at whose COUNT POINT is, else THE NEXT one, and 10; then 10 and one for each byte of its KEY"
    private static void keyAtACount() {
        CountKeyStore x = three();
        Due.poke(x, 0, 1, 2, 9);
        for (int op = KEY; op <= HIGH; op++) {
            Due.is("at A's COUNT", fromHome(x, row(READ_COUNT, 100, 6, 0), row(op, 0, 2, 0), row(NOTHING, 0, 0, 0)), NORMAL);
            Due.is("it holds", x.status(3), 3);
            Due.is("time()", x.time() % 1500, 52);
            Due.is("else the next", fromHome(x, row(op, 0, 2, 0), row(NOTHING, 0, 0, 0)), NORMAL);
            Due.is("time()", x.time() % 1500, 52);
            Due.is("behind A's KEY: B", fromHome(x, row(op, 2, 1, 0), row(op, 2, 1, 0)), NORMAL);
            Due.is("it has none: 10 and 10", x.time() % 1500, 63 + 20);
            Due.is("at the COUNT by an ID that does not hold", fromHome(x, row(ID, 200, 3, 0), row(op, 0, 2, 0)), NORMAL);
            Due.is("time()", x.time() % 1500, 52);
        }
    }

    // "A SEARCH that HOLDS skips the COMMAND behind it."
    private static void skipsTheOneBehind() {
        CountKeyStore x = three();
        Due.poke(x, 0, 3, 0, 0, 0, 1, 1, 2, 9, 9, 9);
        int[][] hold = {row(HOME, 2, 2, 0), row(ID, 2, 3, 0), row(KEY, 5, 2, 0), row(HIGH, 5, 2, 0)};
        int[][] miss = {row(HOME, 0, 2, 0), row(ID, 7, 3, 0), row(KEY, 6, 2, 0), row(HIGH, 7, 2, 0)};
        for (int i = 0; i < 4; i++) {
            Due.is("it holds", run(x, FROM_HOME, row(JUMP, 0, 0, 0), hold[i], row(READ_ALL, 100, 0, 0), row(NOTHING, 0, 0, 0)), NORMAL);
            ended(x, NORMAL, 0, 4, 3);
            Due.is("it does not", run(x, FROM_HOME, row(JUMP, 0, 0, 0), miss[i], row(READ_ALL, 100, 0, 0), row(NOTHING, 0, 0, 0)), WRONG_LENGTH);
            ended(x, WRONG_LENGTH, 0, 3, 3);
        }
    }

    // "When there is no next COMMAND the program ends: NORMAL."
    private static void skipsBehindTheLast() {
        CountKeyStore x = three();
        Due.poke(x, 0, 0, 0, 1);
        x.command(1, 99, 0, 0, 0);
        x.command(2, 99, 0, 0, 0);
        x.command(0, ID, 0, 3, 0);
        Due.is("the SEARCH is the last", x.start(1), NORMAL);
        ended(x, NORMAL, 0, 0, 1);
        Due.is("time()", x.time(), 1540);
        Due.is("its JUMP is the last", run(x, row(ID, 0, 3, 0), row(JUMP, 0, 0, 0)), NORMAL);
        // B, C and, behind the index, A.
        ended(x, NORMAL, 0, 0, 5);
        for (int i = 0; i < 31; i++) {
            x.command(i, NOTHING, 0, 0, CHAIN);
        }
        x.command(31, HOME, 900, 2, 0);
        Due.is("COMMAND 31 is a SEARCH that holds", x.start(1), NORMAL);
        ended(x, NORMAL, 0, 31, 32);
    }

    // "JUMP: the COMMAND told there comes next."
    private static void jumpComesNext() {
        CountKeyStore x = three();
        Due.poke(x, 0, 7, 8, 9);
        Due.is("start(1)", run(x, FROM_HOME, row(JUMP, 0, 0, 0), row(ID, 0, 3, 0), row(JUMP, 2, 0, 0), row(READ_KEY, 100, 1, 0)), NORMAL);
        // HOME; ID JUMP ID JUMP ID; READ KEY.
        ended(x, NORMAL, 0, 4, 7);
        Due.is("C's KEY", x.memory(100), 9);
        Due.is("time()", x.time(), 1626);
    }

    // "READ COUNT: THE NEXT RECORD, and 10; its COUNT; POINT at it."
    private static void pointOfReadCount() {
        CountKeyStore x = three();
        Due.is("at A's COUNT: B's", fromHome(x, row(READ_COUNT, 100, 6, 0), row(READ_COUNT, 110, 6, 0)), NORMAL);
        Due.is("A", x.memory(102), 1);
        Due.is("B", x.memory(112), 2);
        Due.is("time()", x.time(), 1573);
        Due.is("its DATA", fromHome(x, row(READ_COUNT, 100, 6, 0), row(READ_DATA, 120, 1, 0)), NORMAL);
        Due.is("A's", x.memory(120), 3);
        Due.is("time()", x.time(), 3063);
    }

    // "READ KEY: the RECORD at whose COUNT POINT is, else THE NEXT, and 10; then 10 and one for each byte ..., and 10"
    private static void pointOfReadKey() {
        CountKeyStore x = three();
        Due.is("else the next", fromHome(x, row(READ_KEY, 100, 3, 0)), NORMAL);
        Due.is("time()", x.time(), 1563);
        Due.is("at the COUNT", fromHome(x, row(READ_COUNT, 110, 6, 0), row(READ_KEY, 100, 3, 0)), NORMAL);
        Due.is("time()", x.time(), 3063);
        Due.is("behind A's KEY: B", fromHome(x, row(KEY, 800, 1, 0), row(READ_KEY, 100, 2, 0)), NORMAL);
        Due.is("B's DATA", x.memory(100), 4);
        Due.is("time()", x.time(), 4595);
    }

    // "READ DATA: likewise, or the RECORD behind whose KEY POINT is; what is counted for the KEY ... has been then; DATA."
    private static void pointOfReadData() {
        CountKeyStore x = three();
        Due.is("else the next", fromHome(x, row(READ_DATA, 100, 1, 0)), NORMAL);
        Due.is("time()", x.time(), 1563);
        Due.is("at the COUNT", fromHome(x, row(READ_COUNT, 110, 6, 0), row(READ_DATA, 100, 1, 0)), NORMAL);
        Due.is("time()", x.time(), 3063);
        Due.is("behind the KEY", fromHome(x, row(HIGH, 800, 1, 0), row(READ_DATA, 100, 1, 0)), NORMAL);
        Due.is("A's", x.memory(100), 3);
        Due.is("time()", x.time(), 4563);
        Due.is("at a COUNT and behind its KEY", fromHome(x, row(READ_COUNT, 110, 6, 0), row(KEY, 800, 1, 0), row(READ_DATA, 100, 1, 0)), NORMAL);
        Due.is("time()", x.time(), 6063);
    }

    // "READ ALL: THE NEXT RECORD; 30 and one for each byte of KEY and DATA"
    private static void pointOfReadAll() {
        CountKeyStore x = three();
        Due.is("else the next", fromHome(x, row(READ_ALL, 100, 9, 0)), NORMAL);
        Due.is("time()", x.time(), 1563);
        Due.is("at A's COUNT: B", fromHome(x, row(READ_COUNT, 110, 6, 0), row(READ_ALL, 100, 8, 0)), NORMAL);
        Due.is("time()", x.time(), 3095);
        Due.is("behind A's KEY: B", fromHome(x, row(KEY, 800, 1, 0), row(READ_ALL, 100, 8, 0)), NORMAL);
        Due.is("B", x.memory(102), 2);
        Due.is("time()", x.time(), 4595);
    }

    // "(POINT is nowhere behind the last three.)"
    private static void pointBehindThese() {
        for (int op = READ_KEY; op <= READ_ALL; op++) {
            CountKeyStore x = three();
            Due.is("then B's DATA", fromHome(x, row(op, 100, 9, ANY), row(READ_DATA, 200, 2, 0)), NORMAL);
            Due.is("B", x.memory(200), 4);
            Due.is("then B's KEY and DATA", fromHome(x, row(op, 100, 9, ANY), row(READ_KEY, 210, 2, 0)), NORMAL);
            Due.is("B", x.memory(210), 4);
            Due.is("time()", x.time(), 3095);
        }
        // READ KEY and READ DATA at a COUNT, and READ DATA behind a KEY.
        int[][] ahead = {row(READ_COUNT, 100, 6, 0), row(READ_COUNT, 100, 6, 0), row(KEY, 800, 1, 0)};
        int[] ops = {READ_KEY, READ_DATA, READ_DATA};
        for (int i = 0; i < 3; i++) {
            CountKeyStore x = three();
            Due.is("then B's DATA", fromHome(x, ahead[i], row(ops[i], 100, 9, ANY), row(READ_DATA, 200, 2, 0)), NORMAL);
            Due.is("B", x.memory(200), 4);
            Due.is("time()", x.time(), 1595);
        }
    }

    // "POINT is nowhere (at first)": wherever the program before left it
    private static void pointIsNowhereAtFirst() {
        int[][] ahead = {row(READ_COUNT, 100, 6, 0), row(ID, 800, 3, 0), row(KEY, 800, 1, 0), row(HIGH, 800, 1, 0)};
        for (int[] command : ahead) {
            for (int op = READ_KEY; op <= READ_DATA; op++) {
                CountKeyStore x = three();
                Due.is("to A", fromHome(x, command), NORMAL);
                Due.is("B", run(x, row(op, 200, 2, 0)), NORMAL);
                Due.is("its DATA", x.memory(200), 4);
                Due.is("time()", x.time(), 1595);
            }
        }
    }

    private static final int[][] OF_A = {{0, 0, 1, 2, 0, 1}, {1, 2, 3}, {3}, {0, 0, 1, 2, 0, 1, 1, 2, 3}};

    /** One READ of A from the home, with what comes of each LENGTH and the FLAGS. */
    private static void readOfA(int op, int length, int flags, boolean spoiled) {
        int[] bytes = OF_A[op - READ_COUNT];
        CountKeyStore x = three();
        if (spoiled) {
            x.spoil(1, 0, 0);
        }
        int[] filled = new int[20];
        java.util.Arrays.fill(filled, 77);
        Due.poke(x, 100, filled);
        int status = length == bytes.length || (flags & ANY) != 0 ? NORMAL : WRONG_LENGTH;
        status = spoiled && op != READ_COUNT ? DATA_CHECK : status;
        Due.is("op " + op + " " + length + " " + flags, fromHome(x, row(op, 100, length, flags)), status);
        ended(x, status, Math.max(0, length - bytes.length), 2, 2);
        Due.is("time()", x.time(), op == READ_COUNT ? 1540 : 1563);
        for (int i = 0; i < 20; i++) {
            boolean came = i < length && i < bytes.length && (flags & DROP) == 0;
            Due.is("byte " + i, x.memory(100 + i), came ? bytes[i] : 77);
        }
    }

    // "The first LENGTH of these bytes come to MEMORY from ADDRESS on, unless DROP; RESIDUAL: LENGTH less how many that are. ...
    // if LENGTH is not how many bytes there were and without ANY: WRONG LENGTH"
    private static void readLengths() {
        for (int op = READ_COUNT; op <= READ_ALL; op++) {
            int n = OF_A[op - READ_COUNT].length;
            for (int flags = 0; flags < 8; flags += 2) {
                for (int length : new int[] {0, n - 1, n, n + 1, n + 7}) {
                    readOfA(op, length, flags, false);
                }
            }
        }
    }

    // The same, where there are no bytes.
    private static void readsOfNothing() {
        CountKeyStore x = with(count(0, 0, 1, 0, 0), count(0, 0, 2, 0, 0));
        for (int op = READ_KEY; op <= READ_DATA; op++) {
            Due.is("none", fromHome(x, row(op, 100, 0, 0)), NORMAL);
            ended(x, NORMAL, 0, 2, 2);
            Due.is("time()", x.time() % 1500, 60);
            Due.is("one too many", fromHome(x, row(op, 100, 1, 0)), WRONG_LENGTH);
            ended(x, WRONG_LENGTH, 1, 2, 2);
            Due.is("with ANY", fromHome(x, row(op, 100, 1, ANY)), NORMAL);
            ended(x, NORMAL, 1, 2, 2);
            Due.is("memory(100)", x.memory(100), 0);
        }
        Due.is("the COUNT alone", fromHome(x, row(READ_ALL, 100, 6, 0)), NORMAL);
        Due.is("time()", x.time() % 1500, 60);
    }

    // "the ADDRESS and the LENGTH ... together at most 2048"
    private static void readsToTheEndOfMemory() {
        CountKeyStore x = three();
        Due.is("to the last byte", fromHome(x, row(READ_ALL, 2039, 9, 0)), NORMAL);
        Due.is("memory(2047)", x.memory(2047), 3);
        Due.is("memory(2038)", x.memory(2038), 0);
        Due.is("none, behind the last", fromHome(x, row(READ_ALL, 2048, 0, 0)), WRONG_LENGTH);
        ended(x, WRONG_LENGTH, 0, 2, 2);
        Due.is("none, with ANY", fromHome(x, row(READ_ALL, 2048, 0, ANY)), NORMAL);
        Due.is("memory(2047)", x.memory(2047), 3);
        Due.is("its first alone", fromHome(x, row(READ_KEY, 2047, 1, ANY)), NORMAL);
        Due.is("memory(2047)", x.memory(2047), 1);
    }

    // The same, of the longest RECORD and all of MEMORY.
    private static void readsFarLonger() {
        CountKeyStore x = with(Due.join(count(0, 0, 1, 60, 1200), Due.row(100, 1)));
        Due.is("all of it", fromHome(x, row(READ_ALL, 0, 1266, 0)), NORMAL);
        Due.is("time()", x.time() % 1500, 1320);
        Due.is("its count", x.memory(3), 60);
        Due.is("its key", x.memory(6), 1);
        Due.is("its data", x.memory(105), 100);
        Due.is("0s", x.memory(106), 0);
        Due.poke(x, 900, 0, 0);
        Due.is("one too few", fromHome(x, row(READ_ALL, 0, 1265, 0)), WRONG_LENGTH);
        Due.poke(x, 900, 0, 0);
        Due.is("all of MEMORY", fromHome(x, row(READ_ALL, 0, 2048, 0)), WRONG_LENGTH);
        ended(x, WRONG_LENGTH, 2048 - 1266, 2, 2);
    }

    // "WRONG LENGTH: the program ends behind the COMMAND."
    private static void endsBehindTheCommand() {
        CountKeyStore x = three();
        Due.is("READ DATA", fromHome(x, row(READ_DATA, 100, 5, 0), row(READ_DATA, 200, 2, 0)), WRONG_LENGTH);
        ended(x, WRONG_LENGTH, 4, 2, 2);
        Due.is("what came stays", x.memory(100), 3);
        Due.is("the next one was not begun", x.memory(200), 0);
        Due.is("time() is behind it", x.time(), 1563);
        x.spoil(1, 0, 0);
        Due.is("DATA CHECK too", fromHome(x, row(READ_DATA, 300, 1, 0), row(READ_DATA, 200, 2, 0)), DATA_CHECK);
        ended(x, DATA_CHECK, 0, 2, 2);
        Due.is("what came stays", x.memory(300), 3);
        Due.is("the next one was not begun", x.memory(200), 0);
        Due.is("time() is behind it", x.time(), 3063);
    }

    // "RESIDUAL is that of the COMMAND at which it ended, 0 of those that have none, and with 1, 2, 6, 7."
    private static void residualOfTheLast() {
        CountKeyStore x = three();
        int[] read = row(READ_DATA, 100, 9, ANY);
        Due.poke(x, 0, 20, 0, 9, 9, 9, 4);
        Due.poke(x, 10, count(0, 0, 1, 61, 0));
        Due.poke(x, 20, count(0, 0, 1, 60, 1200));
        Due.is("READ", fromHome(x, read), NORMAL);
        ended(x, NORMAL, 8, 2, 2);
        Due.is("NOTHING", fromHome(x, read, row(NOTHING, 0, 0, 0)), NORMAL);
        ended(x, NORMAL, 0, 3, 3);
        Due.is("HOME", fromHome(x, read, row(HOME, 900, 2, 0)), NORMAL);
        ended(x, NORMAL, 0, 3, 3);
        Due.is("a READ with none", fromHome(x, read, row(READ_DATA, 100, 2, 0)), NORMAL);
        ended(x, NORMAL, 0, 3, 3);
        Due.is("1", fromHome(x, read, row(ID, 2, 3, 0), row(JUMP, 3, 0, 0)), NO_RECORD);
        ended(x, NO_RECORD, 0, 3, x.status(3));
        Due.is("6", fromHome(x, read, row(SEEK, 0, 2, 0)), BAD_PLACE);
        ended(x, BAD_PLACE, 0, 3, 3);
        Due.is("6 of HEAD", fromHome(x, read, row(HEAD, 5, 1, 0)), BAD_PLACE);
        ended(x, BAD_PLACE, 0, 3, 3);
        Due.is("7", fromHome(x, read, FROM_HOME, row(JUMP, 3, 0, 0), row(WRITE_RECORD, 10, 100, 0)), BAD_COUNT);
        ended(x, BAD_COUNT, 0, 5, 4);
        Due.is("2", fromHome(x, read, FROM_HOME, row(JUMP, 3, 0, 0), row(WRITE_RECORD, 20, 6, ANY), row(WRITE_RECORD, 20, 2000, ANY)), TRACK_FULL);
        ended(x, TRACK_FULL, 0, 6, 5);
    }

    // "If DATA is among them and the RECORD is SPOILED: DATA CHECK; else, if LENGTH is not ..."
    private static void dataCheckGoesAhead() {
        for (int op = READ_COUNT; op <= READ_ALL; op++) {
            int n = OF_A[op - READ_COUNT].length;
            for (int flags = 0; flags < 8; flags += 2) {
                for (int length : new int[] {0, n, n + 3}) {
                    readOfA(op, length, flags, true);
                }
            }
        }
    }

    // "(DATA are among what READ KEY, READ DATA, READ ALL read, even if there are no bytes, whatever LENGTH is.)"
    private static void dataCheckWithoutBytes() {
        for (int key = 0; key < 2; key++) {
            CountKeyStore x = with(count(0, 0, 1, key, 0));
            x.spoil(1, 0, 0);
            for (int op = READ_KEY; op <= READ_ALL; op++) {
                for (int length : new int[] {0, 1, 6, 7}) {
                    Due.is("op " + op + " " + length, fromHome(x, row(op, 100, length, 0)), DATA_CHECK);
                    Due.is("with ANY", fromHome(x, row(op, 100, length, ANY)), DATA_CHECK);
                    Due.is("with DROP", fromHome(x, row(op, 100, length, DROP)), DATA_CHECK);
                }
            }
            Due.is("READ COUNT", fromHome(x, row(READ_COUNT, 100, 6, 0)), NORMAL);
        }
    }

    // The same: SEARCHES and WRITES read no DATA.
    private static void dataCheckOfNoOther() {
        CountKeyStore x = three();
        for (int k = 0; k < 3; k++) {
            x.spoil(1, 0, k);
        }
        Due.poke(x, 0, 0, 0, 1, 1, 2, 60, 61, 62);
        Due.is("ID", fromHome(x, row(ID, 0, 3, 0), row(JUMP, 2, 0, 0)), NORMAL);
        Due.is("KEY", fromHome(x, row(KEY, 3, 2, 0), row(JUMP, 2, 0, 0)), NORMAL);
        Due.is("HIGH", fromHome(x, row(HIGH, 3, 2, 0), row(JUMP, 2, 0, 0)), NORMAL);
        Due.is("WRITE DATA", run(x, row(ID, 0, 3, 0), row(JUMP, 0, 0, 0), row(WRITE_DATA, 5, 1, 0)), NORMAL);
        x.spoil(1, 0, 0);
        Due.is("WRITE KEY", run(x, row(ID, 0, 3, 0), row(JUMP, 0, 0, 0), row(WRITE_KEY, 5, 3, 0)), NORMAL);
    }

    /** A write to the first of two records (key 1 2, data 3 4 5; data 6), from the home on. */
    private static void writeTo(int op, int length, int flags) {
        CountKeyStore x = with(row(0, 0, 1, 2, 0, 3, 1, 2, 3, 4, 5), row(0, 0, 2, 0, 0, 1, 6));
        x.spoil(1, 0, 0);
        x.spoil(1, 0, 1);
        Due.poke(x, 0, 0, 0, 1, 50, 51, 52, 53, 54, 55, 56);
        int n = op == WRITE_DATA ? 3 : 5;
        int status = length == n || (flags & ANY) != 0 ? NORMAL : WRONG_LENGTH;
        Due.is("op " + op + " " + length + " " + flags, fromHome(x, row(ID, 0, 3, 0), row(JUMP, 2, 0, 0), row(op, 3, length, flags)), status);
        ended(x, status, Math.max(0, length - n), 4, 3);
        Due.is("time() is at its end", x.time(), 1565);
        int[] due = {1, 2, 3, 4, 5};
        for (int i = 0; i < n; i++) {
            due[5 - n + i] = i < length ? 50 + i : 0;
        }
        Due.holds("its key", Due.keyIs(x, 1, 0, 0, due[0], due[1]));
        for (int i = 0; i < 3; i++) {
            Due.is("its data", x.record(1, 0, 0, 200 + i), due[2 + i]);
        }
        Due.is("it is whole", x.record(1, 0, 0, 6), 0);
        Due.is("the next is as it was", x.record(1, 0, 1, 200), 6);
        Due.is("and its mark", x.record(1, 0, 1, 6), 1);
        Due.is("its count stays", x.record(1, 0, 0, 3) * 10 + x.record(1, 0, 0, 4), 23);
    }

    // "WRITE DATA: ... DATA become the LENGTH bytes of MEMORY, as far as they are wanted, 0s behind them"
    private static void writeDataLengths() {
        for (int flags = 0; flags < 8; flags += 2) {
            for (int length : new int[] {0, 1, 2, 3, 4, 7}) {
                writeTo(WRITE_DATA, length, flags);
            }
        }
    }

    // The same, of a RECORD without DATA.
    private static void writeDataOfNone() {
        CountKeyStore x = three();
        Due.poke(x, 0, 9, 50, 51);
        Due.is("none", run(x, row(KEY, 0, 1, 0), row(JUMP, 0, 0, 0), row(WRITE_DATA, 1, 0, 0)), NORMAL);
        Due.is("time()", x.time(), 1626);
        Due.is("one", run(x, row(KEY, 0, 1, 0), row(JUMP, 0, 0, 0), row(WRITE_DATA, 1, 1, 0)), WRONG_LENGTH);
        ended(x, WRONG_LENGTH, 1, 2, 6);
        Due.is("one, with ANY", run(x, row(KEY, 0, 1, 0), row(JUMP, 0, 0, 0), row(WRITE_DATA, 1, 1, ANY)), NORMAL);
        ended(x, NORMAL, 1, 2, 6);
        Due.holds("its key", Due.keyIs(x, 1, 0, 2, 9));
        Due.is("no data", x.record(1, 0, 2, 4), 0);
    }

    // "TIME, RESIDUAL, WRONG LENGTH as of READ DATA." and "POINT is nowhere then."
    private static void writeDataTimes() {
        int[][] searches = {row(ID, 0, 3, 0), row(KEY, 3, 2, 0), row(HIGH, 3, 2, 0)};
        for (int[] search : searches) {
            CountKeyStore x = three();
            Due.poke(x, 0, 0, 0, 1, 1, 2, 50);
            Due.is("WRITE DATA", run(x, search, row(JUMP, 0, 0, 0), row(WRITE_DATA, 5, 1, 0)), NORMAL);
            Due.is("its data", x.record(1, 0, 0, 200), 50);
            Due.is("time() is at its end", x.time(), 1563);
            Due.is("then the next", run(x, search, row(JUMP, 0, 0, 0), row(WRITE_DATA, 5, 1, 0), row(READ_DATA, 100, 2, 0)), NORMAL);
            Due.is("B", x.memory(100), 4);
            Due.is("time()", x.time(), 3095);
        }
    }

    // "WRITE KEY: likewise KEY and DATA, as READ KEY. POINT is nowhere then."
    private static void writeKeyLengths() {
        for (int flags = 0; flags < 8; flags += 2) {
            for (int length : new int[] {0, 1, 2, 3, 4, 5, 6, 7}) {
                writeTo(WRITE_KEY, length, flags);
            }
        }
        CountKeyStore x = three();
        Due.poke(x, 0, 0, 0, 1, 60, 61, 62);
        Due.is("then the next", run(x, row(ID, 0, 3, 0), row(JUMP, 0, 0, 0), row(WRITE_KEY, 3, 3, 0), row(READ_DATA, 100, 2, 0)), NORMAL);
        Due.is("B", x.memory(100), 4);
        Due.is("time()", x.time(), 1595);
    }

    // "the first six bytes are its COUNT, the others its KEY and DATA, as far as they are wanted, 0s behind them." and
    // "RESIDUAL: LENGTH less 6 and KEY and DATA's lengths, if it is more, else 0; WRONG LENGTH if it is not that, without ANY"
    private static void writeRecordLengths() {
        for (int flags = 0; flags < 8; flags += 2) {
            for (int length : new int[] {6, 7, 8, 9, 10, 11, 12, 30}) {
                CountKeyStore x = with(Due.join(count(0, 0, 1, 0, 40), Due.row(40, 1)));
                Due.poke(x, 0, 9, 8, 7, 2, 0, 3, 50, 51, 52, 53, 54, 55, 56);
                int status = length == 11 || (flags & ANY) != 0 ? NORMAL : WRONG_LENGTH;
                Due.is("LENGTH " + length, fromHome(x, row(WRITE_RECORD, 0, length, flags)), status);
                ended(x, status, Math.max(0, length - 11), 2, 2);
                Due.is("time() is at its end", x.time(), 1565);
                for (int what = 0; what < 3; what++) {
                    Due.is("its ID", x.record(1, 0, 0, what), 9 - what);
                }
                for (int i = 0; i < 5; i++) {
                    Due.is("byte " + i, x.record(1, 0, 0, i < 2 ? 100 + i : 198 + i), i < length - 6 ? 50 + i : 0);
                }
                Due.is("its key", x.record(1, 0, 0, 3), 2);
                Due.is("its data", x.record(1, 0, 0, 4), 3);
            }
        }
    }

    // "behind the RECORD of POINT (or the HOME: as the first) there comes a new one in place of all that are there"
    private static void writeRecordInPlaceOfAll() {
        int[][] searches = {row(HOME, 900, 2, 0), row(ID, 0, 3, 0), row(KEY, 3, 2, 0), row(HIGH, 3, 2, 0), row(ID, 5, 3, 0), row(ID, 8, 3, 0)};
        int[] at = {0, 1, 1, 1, 2, 3};
        int[] places = {30, 63, 63, 63, 95, 126};
        for (int i = 0; i < searches.length; i++) {
            CountKeyStore x = three();
            Due.poke(x, 0, 0, 0, 1, 1, 2, 0, 0, 2, 7, 8, 9);
            Due.poke(x, 20, 5, 5, 5, 0, 0, 1, 99);
            Due.is("WRITE RECORD", run(x, searches[i], row(JUMP, 0, 0, 0), row(WRITE_RECORD, 20, 7, 0)), NORMAL);
            Due.is("the new one", x.record(1, 0, at[i], 2), 5);
            Due.is("its place", x.record(1, 0, at[i], 5), places[i]);
            Due.is("its data", x.record(1, 0, at[i], 200), 99);
            Due.is("none behind it", x.record(1, 0, at[i] + 1, 2), NONE);
            Due.is("time() is at its end", x.time(), 1500 + places[i] + 31);
            int[] numbers = {1, 2, 9};
            for (int k = 0; k < at[i]; k++) {
                Due.is("those ahead stay", x.record(1, 0, k, 2), numbers[k]);
            }
        }
    }

    // "POINT is at its end."
    private static void writeRecordAtItsEnd() {
        CountKeyStore x = three();
        Due.poke(x, 0, 5, 5, 5, 0, 0, 1, 99, 6, 6, 6, 1, 0, 0, 98);
        int[] one = row(WRITE_RECORD, 0, 7, 0);
        int[] other = row(WRITE_RECORD, 7, 7, 0);
        Due.is("three", fromHome(x, one, other, one), NORMAL);
        int[] numbers = {5, 6, 5};
        for (int k = 0; k < 3; k++) {
            Due.is("its number", x.record(1, 0, k, 2), numbers[k]);
            Due.is("its place", x.record(1, 0, k, 5), 30 + 31 * k);
        }
        Due.is("time()", x.time(), 1623);
        Due.is("READ DATA does not read it", fromHome(x, one, other, row(READ_DATA, 100, 1, 0)), NORMAL);
        Due.is("it reads the first, a turn later", x.memory(100), 99);
        Due.is("time()", x.time(), 4561);
        // A WRONG LENGTH has written it all the same, and ends ahead of the next.
        Due.is("WRONG LENGTH", fromHome(x, row(WRITE_RECORD, 0, 6, 0), other), WRONG_LENGTH);
        Due.is("it is there", x.record(1, 0, 0, 2), 5);
        Due.is("its data", x.record(1, 0, 0, 200), 0);
        Due.is("the next is not", x.record(1, 0, 1, 2), NONE);
    }

    private static void nothingChanged(CountKeyStore x) {
        int[] numbers = {1, 2, 9};
        for (int k = 0; k < 3; k++) {
            Due.is("it is there still", x.record(1, 0, k, 2), numbers[k]);
        }
        Due.is("its data", x.record(1, 0, 0, 200), 3);
        Due.is("no more", x.record(1, 0, 3, 2), NONE);
    }

    // "If its KEY or DATA would be longer than may be: BAD COUNT; ... nothing changes by both."
    private static void badCount() {
        int[][] bad = {{61, 0}, {0, 1201}, {255, 0}, {0, 65535}, {60, 1201}, {61, 1200}};
        for (int[] lengths : bad) {
            CountKeyStore x = three();
            Due.poke(x, 0, count(5, 5, 5, lengths[0], lengths[1]));
            Due.is("at the HOME", fromHome(x, row(WRITE_RECORD, 0, 20, 0), row(WRITE_RECORD, 0, 6, 0)), BAD_COUNT);
            ended(x, BAD_COUNT, 0, 2, 2);
            Due.is("time() stays at the HOME", x.time(), 1530);
            nothingChanged(x);
            Due.poke(x, 50, 0, 0, 1);
            Due.is("behind A", run(x, row(ID, 50, 3, 0), row(JUMP, 0, 0, 0), row(WRITE_RECORD, 0, 6, ANY)), BAD_COUNT);
            Due.is("time() stays at its COUNT", x.time(), 1540);
            nothingChanged(x);
        }
    }

    // "... BAD COUNT; else, if it would end behind 1500: TRACK FULL"
    private static void badCountGoesAhead() {
        CountKeyStore x = new CountKeyStore();
        Due.poke(x, 0, count(0, 0, 1, 60, 1200));
        Due.poke(x, 10, count(0, 0, 2, 61, 1200));
        Due.poke(x, 20, count(0, 0, 2, 60, 1201));
        Due.is("a KEY of 61", fromHome(x, row(WRITE_RECORD, 0, 6, ANY), row(WRITE_RECORD, 10, 6, ANY)), BAD_COUNT);
        Due.is("DATA of 1201", fromHome(x, row(WRITE_RECORD, 0, 6, ANY), row(WRITE_RECORD, 20, 6, ANY)), BAD_COUNT);
        Due.is("neither", fromHome(x, row(WRITE_RECORD, 0, 6, ANY), row(WRITE_RECORD, 0, 6, ANY)), TRACK_FULL);
    }

    // "if it would end behind 1500: TRACK FULL; nothing changes by both."
    private static void trackFull() {
        CountKeyStore x = three();
        // Behind C (126) 1374 places: 1344 bytes would fit, but no more than 60 and 1200; behind that, 84.
        Due.poke(x, 0, 7, 8, 9);
        Due.poke(x, 10, count(0, 0, 4, 60, 1200));
        Due.poke(x, 20, count(0, 0, 5, 0, 54));
        Due.poke(x, 30, count(0, 0, 5, 0, 55));
        int[][] rows = {row(ID, 0, 3, 0), row(JUMP, 0, 0, 0), row(WRITE_RECORD, 10, 6, ANY), row(WRITE_RECORD, 30, 100, 0)};
        Due.is("one place more", run(x, rows), TRACK_FULL);
        ended(x, TRACK_FULL, 0, 3, x.status(3));
        Due.is("time() is at the end of the one ahead", x.time() % 1500, 1416);
        Due.is("it is not there", x.record(1, 0, 4, 2), NONE);
        rows[3] = row(WRITE_RECORD, 20, 60, ANY);
        Due.is("to 1500", run(x, rows), NORMAL);
        Due.is("it is there", x.record(1, 0, 4, 5), 1416);
        // Behind the long one nothing else fits: what is there stays.
        Due.poke(x, 0, 0, 0, 4);
        Due.is("behind the fourth", run(x, row(ID, 0, 3, 0), row(JUMP, 0, 0, 0), row(WRITE_RECORD, 10, 6, ANY)), TRACK_FULL);
        Due.is("time() stays at its COUNT", x.time() % 1500, 126 + 10);
        Due.is("the fifth is there still", x.record(1, 0, 4, 5), 1416);
    }

    // "ERASE: all RECORDS behind the one of POINT (or the HOME) are gone; TIME goes on to the end of this"
    private static void eraseBehind() {
        int[][] searches = {row(ID, 0, 3, 0), row(KEY, 3, 2, 0), row(HIGH, 3, 2, 0), row(ID, 5, 3, 0), row(ID, 8, 3, 0)};
        int[] kept = {1, 1, 1, 2, 3};
        int[] ends = {63, 63, 63, 95, 126};
        for (int i = 0; i < searches.length; i++) {
            CountKeyStore x = three();
            Due.poke(x, 0, 0, 0, 1, 1, 2, 0, 0, 2, 7, 8, 9);
            Due.is("ERASE", run(x, searches[i], row(JUMP, 0, 0, 0), row(ERASE, -1, -1, 0)), NORMAL);
            ended(x, NORMAL, 0, 2, x.status(3));
            Due.is("the last that stays", x.record(1, 0, kept[i] - 1, 5) > 0 ? 1 : 0, 1);
            Due.is("the others are gone", x.record(1, 0, kept[i], 5), NONE);
            Due.is("time()", x.time(), 1500 + ends[i]);
        }
        // A record that ends at 1500: time goes on to the place 0.
        CountKeyStore x = with(count(0, 0, 1, 60, 1200), count(0, 0, 2, 0, 150));
        Due.poke(x, 0, 0, 0, 2);
        Due.is("ERASE", run(x, row(ID, 0, 3, 0), row(JUMP, 0, 0, 0), row(ERASE, 0, 0, 0)), NORMAL);
        Due.is("time()", x.time(), 3000);
        Due.is("both are there", x.record(1, 0, 1, 2), 2);
    }

    // "(to 30 of the HOME)"
    private static void eraseAtTheHome() {
        CountKeyStore x = three();
        Due.is("ERASE", fromHome(x, row(ERASE, 0, 0, 0)), NORMAL);
        Due.is("time()", x.time(), 1530);
        Due.is("none is there", x.record(1, 0, 0, 2), NONE);
        Due.is("of an empty track", fromHome(x, row(ERASE, 0, 0, 0)), NORMAL);
        Due.is("time()", x.time(), 3030);
    }

    // The same behind a WRITE RECORD, "POINT is nowhere."
    private static void eraseAtTheEnd() {
        CountKeyStore x = three();
        Due.poke(x, 0, 5, 5, 5, 0, 0, 1, 99);
        Due.is("ERASE", fromHome(x, row(WRITE_RECORD, 0, 7, 0), row(ERASE, 0, 0, 0)), NORMAL);
        Due.is("time() stays", x.time(), 1561);
        Due.is("the new one is there", x.record(1, 0, 0, 2), 5);
        x = three();
        Due.poke(x, 0, 0, 0, 1);
        Due.is("then READ DATA", run(x, row(ID, 0, 3, 0), row(JUMP, 0, 0, 0), row(ERASE, 0, 0, 0), row(READ_DATA, 100, 1, 0)), NORMAL);
        Due.is("a turn later", x.time(), 3063);
    }

    // "NOTHING: POINT stays."
    private static void nothingKeepsThePoint() {
        CountKeyStore x = three();
        int[] nothing = row(NOTHING, -1, -1, 0);
        Due.is("at a COUNT", fromHome(x, row(READ_COUNT, 100, 6, 0), nothing, nothing, row(READ_KEY, 110, 3, 0)), NORMAL);
        Due.is("A", x.memory(112), 3);
        Due.is("time()", x.time(), 1563);
        Due.is("behind a KEY", fromHome(x, row(KEY, 800, 1, 0), nothing, nothing, row(READ_DATA, 120, 1, 0)), NORMAL);
        Due.is("A", x.memory(120), 3);
        Due.is("time()", x.time(), 3063);
    }
}
