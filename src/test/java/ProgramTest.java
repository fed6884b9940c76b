/** Promises 5 and 8 to 13: commands, channel programs, their status and time, arms and records. */
public final class ProgramTest extends Rig {
    public static void main(String[] args) {
        commandsAndRange();
        theCheck();
        whereWritesMayStand();
        aProgramOf32();
        protectedUnit();
        arms();
        homes();
        searchesById();
        searchesByKey();
        highSearchesAsBytes();
        pointsOfReading();
        whatIsLeftOfAProgram();
        readsAndLengths();
        dataChecks();
        writingData();
        writingKeys();
        writingRecords();
        badCountsAndFullTracks();
        erasing();
        passesAreCounted();
        theIndexUnderTheHeads();
        recordsTold();
        Due.settle();
    }

    private static void commandsAndRange() {
        CountKeyStore x = new CountKeyStore();
        Due.is("command(-1..)", x.command(-1, 1, 0, 2, 0), CountKeyStore.RANGE);
        Due.is("command(32..)", x.command(32, 1, 0, 2, 0), CountKeyStore.RANGE);
        Due.is("flags -1", x.command(0, 1, 0, 2, -1), CountKeyStore.RANGE);
        Due.is("flags 8", x.command(0, 1, 0, 2, 8), CountKeyStore.RANGE);
        Due.is("command(31..)", x.command(31, -5, -6, -7, 7), 1);
        Due.is("start(-1)", x.start(-1), CountKeyStore.RANGE);
        Due.is("start(2)", x.start(2), CountKeyStore.RANGE);
        ended(x, 0, 0, CountKeyStore.NONE, 0);
        Due.is("status(4)", x.status(4), CountKeyStore.NONE);
        Due.is("status(-1)", x.status(-1), CountKeyStore.NONE);
        Due.is("start(1) of an op 0", x.start(1), 4);
        ended(x, 4, 0, CountKeyStore.NONE, 0);
        program(x, row(NOTHING, -9, -9, 0));
        Due.is("start(1)", x.start(1), 0);
        ended(x, 0, 0, 0, 1);
        Due.is("start(5)", x.start(5), CountKeyStore.RANGE);
        ended(x, 0, 0, 0, 1);
    }

    private static void check(boolean good, int op, int address, int length) {
        CountKeyStore x = new CountKeyStore();
        program(x, row(op, address, length, 0));
        int answer = x.start(1);
        Due.is("op " + op + " " + address + " " + length + " is bad", answer == 4 ? 1 : 0, good ? 0 : 1);
        if (!good) {
            ended(x, 4, 0, CountKeyStore.NONE, 0);
            Due.is("time()", x.time(), 0);
        }
    }

    private static void theCheck() {
        check(false, 0, 0, 0);
        check(false, 17, 0, 0);
        check(false, -1, 0, 0);
        for (int op = SEEK; op <= READ_ALL; op++) {
            if (op == JUMP) {
                continue;
            }
            int length = op == HEAD || op == KEY || op == HIGH ? 1 : op == ID ? 3 : 2;
            check(true, op, 0, length);
            check(true, op, 2048 - length, length);
            check(false, op, 2049 - length, length);
            check(false, op, -1, length);
            check(false, op, 0, -1);
            check(false, op, Integer.MAX_VALUE, length);
            check(false, op, 0, Integer.MAX_VALUE);
            check(false, op, Integer.MAX_VALUE, Integer.MAX_VALUE);
        }
        check(false, SEEK, 0, 1);
        check(false, SEEK, 0, 3);
        check(false, HEAD, 0, 0);
        check(false, HEAD, 0, 2);
        check(false, HOME, 0, 1);
        check(false, HOME, 0, 3);
        check(false, ID, 0, 2);
        check(false, ID, 0, 4);
        check(false, KEY, 0, 0);
        check(true, KEY, 0, 60);
        check(false, KEY, 0, 61);
        check(false, HIGH, 0, 0);
        check(true, HIGH, 0, 60);
        check(false, HIGH, 0, 61);
        check(true, READ_DATA, 0, 2048);
        check(true, READ_DATA, 2048, 0);
        check(false, READ_DATA, 2048, 1);
        check(true, NOTHING, Integer.MIN_VALUE, Integer.MIN_VALUE);
        check(false, JUMP, 0, 0);
    }

    private static void asLed(boolean good, int search, int op, int length) {
        CountKeyStore x = new CountKeyStore();
        int needs = search == HOME ? 2 : search == ID ? 3 : 1;
        program(x, row(search, 9, needs, 0), row(JUMP, 0, -1, 0), row(op, 20, length, 0));
        Due.is("led by " + search + " op " + op + " " + length, x.start(1) == 4 ? 0 : 1, good ? 1 : 0);
    }

    private static void whereWritesMayStand() {
        for (int search = HOME; search <= HIGH; search++) {
            asLed(search != HOME, search, WRITE_DATA, 0);
            asLed(search == ID, search, WRITE_KEY, 0);
            asLed(true, search, WRITE_RECORD, 6);
            asLed(false, search, WRITE_RECORD, 5);
            asLed(true, search, ERASE, -1);
            asLed(false, search, JUMP, 0);
            asLed(true, search, READ_KEY, 1);
        }
        for (int op = WRITE_DATA; op <= ERASE; op++) {
            CountKeyStore x = new CountKeyStore();
            program(x, row(op, 0, 6, 0));
            Due.is("a write alone", x.start(1), 4);
            program(x, row(HOME, 0, 2, 0), row(op, 0, 6, 0));
            Due.is("a write right behind a search", x.start(1), 4);
            program(x, row(ID, 0, 3, 0), row(JUMP, 0, 0, 0), row(NOTHING, 0, 0, 0), row(op, 0, 6, 0));
            Due.is("a write behind a led command", x.start(1), 4);
            program(x, row(HOME, 0, 2, 0), row(JUMP, 0, 0, 0), row(WRITE_RECORD, 0, 6, 0), row(op, 0, 6, 0));
            Due.is("behind WRITE RECORD", x.start(1), op == WRITE_RECORD || op == ERASE ? 0 : 4);
            program(x, row(HOME, 0, 2, 0), row(JUMP, 0, 0, 0), row(ERASE, 0, 6, 0), row(op, 0, 6, 0));
            Due.is("behind ERASE", x.start(1), 4);
        }
        CountKeyStore x = new CountKeyStore();
        program(x, row(NOTHING, 0, 0, 0), row(ID, 0, 3, 0), row(JUMP, 0, 0, 0));
        Due.is("a JUMP to another command", x.start(1), 4);
        program(x, row(NOTHING, 0, 0, 0), row(ID, 0, 3, 0), row(JUMP, 1, 0, 0));
        Due.is("a JUMP to its search", x.start(1), 1);
        program(x, row(ID, 0, 3, 0), row(NOTHING, 0, 0, 0), row(JUMP, 0, 0, 0));
        Due.is("a JUMP behind NOTHING", x.start(1), 4);
    }

    private static void aProgramOf32() {
        CountKeyStore x = new CountKeyStore();
        for (int i = 0; i < 32; i++) {
            x.command(i, NOTHING, 0, 0, CHAIN);
        }
        Due.is("31 chains", x.start(1), 4);
        x.command(31, NOTHING, 0, 0, ANY | DROP);
        Due.is("31 does not chain", x.start(1), 0);
        ended(x, 0, 0, 31, 32);
        x.command(31, 99, 0, 0, CHAIN);
        x.command(30, NOTHING, 0, 0, 0);
        Due.is("31 is not of the program", x.start(1), 0);
        ended(x, 0, 0, 30, 31);
    }

    private static void protectedUnit() {
        CountKeyStore x = new CountKeyStore();
        program(x, row(HOME, 0, 2, 0), row(JUMP, 0, 0, 0), row(ERASE, 0, 0, 0));
        Due.is("start(0)", x.start(0), 8);
        ended(x, 8, 0, CountKeyStore.NONE, 0);
        Due.is("time()", x.time(), 0);
        program(x, row(HOME, 0, 2, 0), row(JUMP, 1, 0, 0), row(ERASE, 0, 0, 0));
        Due.is("the check comes first", x.start(0), 4);
        program(x, row(HOME, 0, 2, 0), row(JUMP, 0, 0, 0), row(READ_COUNT, 0, 6, 0));
        Due.is("reading", x.start(0), 1);
        program(x, row(NOTHING, 0, 0, 0), row(ERASE, 0, 0, 0));
        x.command(0, NOTHING, 0, 0, 0);
        Due.is("a write behind the program", x.start(0), 0);
        for (int op = WRITE_DATA; op <= ERASE; op++) {
            program(x, row(ID, 0, 3, 0), row(JUMP, 0, 0, 0), row(op, 0, 6, 0));
            Due.is("op " + op, x.start(0), 8);
        }
        // The table of the volume is read as any other track.
        Due.allocate(x, "PAY", 0, 3, 10, 5);
        program(x, row(READ_ALL, 100, 22, 0));
        Due.is("start(0)", x.start(0), 0);
        int[] due = {0, 0, 1, 8, 0, 8, 'P', 'A', 'Y', 32, 32, 32, 32, 32, 0, 0, 10, 0, 5, 1, 1, 3};
        for (int i = 0; i < due.length; i++) {
            Due.is("memory", x.memory(100 + i), due[i]);
        }
    }

    private static void arms() {
        CountKeyStore x = new CountKeyStore();
        Due.poke(x, 0, 19, 3, 20, 3, 19, 4, 0, 3, 19, 0);
        program(x, row(SEEK, 0, 2, 0));
        Due.is("start(1)", x.start(1), 0);
        Due.is("time()", x.time(), 50 + 19 * 20);
        Due.is("arm(1, 0)", x.arm(1, 0), 19);
        Due.is("arm(1, 1)", x.arm(1, 1), 3);
        Due.is("arm(0, 0)", x.arm(0, 0), 0);
        program(x, row(SEEK, 2, 2, 0), row(NOTHING, 0, 0, 0));
        Due.is("no such cylinder", x.start(1), 6);
        ended(x, 6, 0, 0, 1);
        program(x, row(NOTHING, 0, 0, 0), row(SEEK, 4, 2, 0));
        Due.is("no such head", x.start(1), 6);
        ended(x, 6, 0, 1, 2);
        Due.is("arm(1, 1)", x.arm(1, 1), 3);
        program(x, row(SEEK, 8, 2, 0));
        Due.is("the same cylinder", x.start(1), 0);
        Due.is("time()", x.time(), 430);
        Due.is("arm(1, 1)", x.arm(1, 1), 0);
        program(x, row(SEEK, 6, 2, 0));
        Due.is("start(0)", x.start(0), 0);
        Due.is("arm(0, 1)", x.arm(0, 1), 3);
        Due.is("time()", x.time(), 430);
        program(x, row(HEAD, 5, 1, 0));
        Due.is("HEAD 4", x.start(0), 6);
        program(x, row(HEAD, 6, 1, 0));
        Due.is("HEAD 0", x.start(0), 0);
        Due.is("arm(0, 1)", x.arm(0, 1), 0);
        program(x, row(SEEK, 6, 2, 0));
        Due.is("back again", x.start(1), 0);
        Due.is("time()", x.time(), 860);
        Due.poke(x, 0, 3, 1, 5, 2, 4, 3);
        program(x, row(SEEK, 0, 2, 0), row(SEEK, 2, 2, 0), row(SEEK, 4, 2, 0));
        Due.is("from one to the other", x.start(1), 0);
        Due.is("time()", x.time(), 860 + 110 + 90 + 70);
        lay(x, row(1, 2, 3, 0, 0, 0));
        Due.is("cylinder 4, head 3", x.record(1, 19, 0, 2), 3);
        Due.is("arm(-1, 0)", x.arm(-1, 0), CountKeyStore.RANGE);
        Due.is("arm(2, 1)", x.arm(2, 1), CountKeyStore.RANGE);
        Due.is("arm(1, -1)", x.arm(1, -1), CountKeyStore.RANGE);
        Due.is("arm(1, 2)", x.arm(1, 2), CountKeyStore.RANGE);
    }

    private static void homes() {
        CountKeyStore x = new CountKeyStore();
        Due.poke(x, 0, 0, 0, 0, 1);
        program(x, row(HOME, 0, 2, 0));
        Due.is("HOME holds", x.start(1), 0);
        ended(x, 0, 0, 0, 1);
        Due.is("time()", x.time(), 30);
        Due.is("start(1)", x.start(1), 0);
        Due.is("time()", x.time(), 1530);
        program(x, row(HOME, 2, 2, 0));
        Due.is("HOME does not hold", x.start(1), 0);
        Due.is("time()", x.time(), 3030);
        program(x, row(HOME, 2, 2, 0), row(JUMP, 0, 0, 0));
        Due.is("nor after a turn", x.start(1), 1);
        ended(x, 1, 0, 0, 3);
        Due.is("time()", x.time(), 6030);
        program(x, row(HOME, 2, 2, 0), row(NOTHING, 0, 0, 0), row(HOME, 2, 2, 0));
        Due.is("NOTHING keeps the passes", x.start(1), 1);
        ended(x, 1, 0, 2, 3);
        program(x, row(HOME, 2, 2, 0), row(HEAD, 1, 1, 0), row(HOME, 2, 2, 0));
        Due.is("HEAD does not", x.start(1), 0);
        ended(x, 0, 0, 2, 3);
        program(x, row(HOME, 0, 2, 0), row(NOTHING, 0, 0, 0), row(HEAD, 3, 1, 0));
        Due.is("what is behind is skipped", x.start(1), 0);
        ended(x, 0, 0, 2, 2);
        Due.is("arm(1, 1)", x.arm(1, 1), 1);
        program(x, row(HOME, 2, 2, 0), row(NOTHING, 0, 0, 0));
        Due.is("the last one is skipped", x.start(1), 0);
        ended(x, 0, 0, 0, 1);
    }

    private static void searchesById() {
        CountKeyStore x = three();
        Due.poke(x, 0, 7, 8, 9, 7, 8, 8);
        program(x, row(ID, 0, 3, 0), row(JUMP, 0, 0, 0), row(READ_KEY, 100, 1, 0));
        Due.is("start(1)", x.start(1), 0);
        // Under the heads is 126: the index comes at 1500, then A at 30, B at 63, C at 95.
        Due.is("time()", x.time(), 1500 + 95 + 31);
        ended(x, 0, 0, 2, 6);
        Due.is("memory(100)", x.memory(100), 9);
        program(x, row(ID, 3, 3, 0), row(JUMP, 0, 0, 0));
        Due.is("none such", x.start(1), 1);
        Due.is("time()", x.time(), 4500);
        ended(x, 1, 0, 0, 7);
        // Without a jump the record that was looked at last is read.
        program(x, row(ID, 3, 3, 0), row(READ_DATA, 100, 1, 0));
        Due.is("start(1)", x.start(1), 0);
        Due.is("memory(100)", x.memory(100), 3);
        Due.is("time()", x.time(), 4563);
    }

    private static void searchesByKey() {
        CountKeyStore x = three();
        Due.poke(x, 0, 9, 1, 2, 9);
        program(x, row(KEY, 0, 1, 0), row(JUMP, 0, 0, 0), row(READ_COUNT, 100, 6, 0));
        // The search passed the index once and held; the read passes it a second time.
        Due.is("start(1)", x.start(1), 1);
        ended(x, 1, 0, 2, 6);
        Due.is("time()", x.time(), 3000);
        program(x, row(READ_COUNT, 100, 6, 0), row(KEY, 1, 2, 0), row(NOTHING, 0, 0, 0), row(READ_DATA, 110, 1, 0));
        Due.is("start(1)", x.start(1), 0);
        ended(x, 0, 0, 3, 3);
        Due.is("A's count", x.memory(102), 1);
        Due.is("A's data", x.memory(110), 3);
        Due.is("time()", x.time(), 3063);
        program(x, row(ID, 8, 3, 0), row(KEY, 1, 2, 0), row(NOTHING, 0, 0, 0), row(READ_DATA, 110, 0, ANY));
        Due.is("start(1)", x.start(1), 0);
        ended(x, 0, 0, 3, 4);
        program(x, row(KEY, 1, 1, 0), row(JUMP, 0, 0, 0));
        Due.is("a key of another length", x.start(1), 1);
        program(x, row(KEY, 1, 3, 0), row(JUMP, 0, 0, 0));
        Due.is("a key of another length", x.start(1), 1);
        // From the index: A at 30, its key passed at 30 + 10 + 10 + 2, then its data.
        program(x, row(KEY, 1, 2, 0), row(JUMP, 0, 0, 0));
        long from = x.time();
        Due.is("at the index", from % 1500, 0);
        Due.is("start(1)", x.start(1), 0);
        Due.is("time()", x.time(), from + 52);
        ended(x, 0, 0, 0, 1);
        from = x.time();
        program(x, row(KEY, 1, 2, 0), row(JUMP, 0, 0, 0), row(READ_DATA, 100, 1, 0));
        Due.is("start(1)", x.start(1), 0);
        Due.is("time()", x.time(), from - from % 1500 + 1500 + 52 + 1 + 10);
        Due.is("memory(100)", x.memory(100), 3);
    }

    private static void highSearchesAsBytes() {
        CountKeyStore x = new CountKeyStore();
        lay(x, row(0, 0, 1, 2, 0, 1, 100, 200, 3));
        int[][] asked = {{100, 200}, {100, 199}, {99, 255}, {0, 0}, {100, 201}, {101, 0}, {200, 0}};
        for (int i = 0; i < asked.length; i++) {
            Due.poke(x, 0, asked[i]);
            program(x, row(HIGH, 0, 2, 0), row(JUMP, 0, 0, 0));
            Due.is("HIGH " + asked[i][0] + " " + asked[i][1], x.start(1), i < 4 ? 0 : 1);
            program(x, row(KEY, 0, 2, 0), row(JUMP, 0, 0, 0));
            Due.is("KEY " + asked[i][0] + " " + asked[i][1], x.start(1), i < 1 ? 0 : 1);
        }
        Due.poke(x, 0, 1, 1, 1);
        program(x, row(HIGH, 0, 1, 0), row(JUMP, 0, 0, 0));
        Due.is("HIGH of one byte", x.start(1), 1);
        program(x, row(HIGH, 0, 3, 0), row(JUMP, 0, 0, 0));
        Due.is("HIGH of three", x.start(1), 1);
    }

    private static void pointsOfReading() {
        CountKeyStore x = three();
        // READ ALL and READ COUNT take the next record, even at a count.
        program(x, row(READ_COUNT, 100, 6, 0), row(READ_ALL, 110, 8, 0));
        Due.is("start(1)", x.start(1), 0);
        Due.is("B", x.memory(112), 2);
        Due.is("time()", x.time(), 1595);
        program(x, row(READ_COUNT, 100, 6, 0), row(READ_COUNT, 110, 6, 0));
        Due.is("start(1)", x.start(1), 0);
        Due.is("C", x.memory(102), 9);
        Due.is("A", x.memory(112), 1);
        Due.is("time()", x.time(), 3040);
        // READ KEY takes the record at whose count the point is, through NOTHING too.
        program(x, row(READ_COUNT, 100, 6, 0), row(NOTHING, 0, 0, 0), row(READ_KEY, 110, 2, 0));
        Due.is("start(1)", x.start(1), 0);
        Due.is("B's data", x.memory(111), 5);
        Due.is("time()", x.time(), 3095);
        // HEAD and SEEK take the point away.
        Due.poke(x, 0, 0, 0);
        program(x, row(READ_COUNT, 100, 6, 0), row(HEAD, 0, 1, 0), row(READ_KEY, 110, 3, 0));
        Due.is("start(1)", x.start(1), 0);
        Due.is("C, then A", x.memory(102) * 10 + x.memory(112), 93);
        program(x, row(READ_COUNT, 100, 6, 0), row(SEEK, 0, 2, 0), row(READ_DATA, 110, 0, 0));
        Due.is("start(1)", x.start(1), 0);
        Due.is("B", x.memory(102), 2);
        Due.is("time()", x.time(), 4500 + 126);
        // Behind a READ KEY and a READ DATA the point is nowhere: the next record.
        for (int op = READ_KEY; op <= READ_DATA; op++) {
            x = three();
            program(x, row(READ_COUNT, 100, 6, 0), row(op, 100, 3, ANY), row(READ_DATA, 110, 2, 0));
            Due.is("start(1)", x.start(1), 0);
            Due.is("B", x.memory(110), 4);
            Due.is("time()", x.time(), 1500 + 95);
            program(x, row(KEY, 100, 1, 0), row(op, 100, 3, ANY), row(READ_COUNT, 110, 6, 0));
            Due.is("start(1)", x.start(1), 0);
        }
        // And a new program begins with it nowhere.
        x = three();
        program(x, row(READ_COUNT, 100, 6, 0));
        Due.is("start(1)", x.start(1), 0);
        program(x, row(READ_KEY, 100, 2, 0));
        Due.is("start(1)", x.start(1), 0);
        Due.is("B", x.memory(100), 4);
        Due.is("time()", x.time(), 1500 + 95);
    }

    private static void whatIsLeftOfAProgram() {
        CountKeyStore x = three();
        program(x, row(READ_ALL, 100, 20, 0));
        Due.is("start(1)", x.start(1), 3);
        ended(x, 3, 11, 0, 1);
        program(x, row(JUMP, 0, 0, 0));
        Due.is("start(1)", x.start(1), 4);
        ended(x, 4, 0, CountKeyStore.NONE, 0);
        program(x, row(READ_ALL, 100, 20, ANY), row(NOTHING, 0, 0, 0));
        Due.is("start(1)", x.start(1), 0);
        ended(x, 0, 0, 1, 2);
        program(x, row(READ_ALL, 100, 20, ANY), row(READ_COUNT, 100, 6, 0));
        Due.is("start(1)", x.start(1), 0);
        ended(x, 0, 0, 1, 2);
        program(x, row(READ_ALL, 100, 20, ANY));
        Due.is("start(1)", x.start(1), 0);
        ended(x, 0, 12, 0, 1);
        program(x, row(HOME, 0, 2, 0), row(JUMP, 0, 0, 0), row(ERASE, 0, 0, 0));
        Due.is("start(0)", x.start(0), 8);
        ended(x, 8, 0, CountKeyStore.NONE, 0);
    }

    private static void readsAndLengths() {
        CountKeyStore x = three();
        Due.poke(x, 100, 77, 77, 77, 77, 77, 77, 77, 77, 77, 77);
        program(x, row(READ_ALL, 100, 8, 0), row(NOTHING, 0, 0, 0));
        Due.is("too short", x.start(1), 3);
        ended(x, 3, 0, 0, 1);
        Due.is("memory(107)", x.memory(107), 2);
        Due.is("memory(108)", x.memory(108), 77);
        program(x, row(READ_ALL, 100, 20, 0), row(NOTHING, 0, 0, 0));
        Due.is("too long", x.start(1), 3);
        ended(x, 3, 12, 0, 1);
        Due.is("memory(107)", x.memory(107), 5);
        Due.is("memory(108)", x.memory(108), 77);
        program(x, row(READ_ALL, 100, 20, ANY), row(READ_ALL, 110, 7, ANY));
        Due.is("any", x.start(1), 0);
        ended(x, 0, 0, 1, 2);
        program(x, row(READ_ALL, 100, 20, ANY));
        Due.is("any", x.start(1), 0);
        ended(x, 0, 12, 0, 1);
        Due.poke(x, 100, 77, 77, 77, 77, 77, 77, 77);
        program(x, row(READ_ALL, 100, 7, DROP));
        Due.is("dropped", x.start(1), 0);
        ended(x, 0, 0, 0, 1);
        Due.is("memory(100)", x.memory(100), 77);
        Due.is("memory(106)", x.memory(106), 77);
        program(x, row(READ_ALL, 100, 10, DROP));
        Due.is("dropped, too long", x.start(1), 3);
        ended(x, 3, 1, 0, 1);
        program(x, row(READ_COUNT, 100, 7, 0));
        Due.is("a count has six", x.start(1), 3);
        ended(x, 3, 1, 0, 1);
        program(x, row(READ_COUNT, 100, 0, ANY), row(READ_COUNT, 100, 5, 0));
        Due.is("a count has six", x.start(1), 3);
        ended(x, 3, 0, 1, 2);
        Due.is("A's count", x.memory(102), 1);
        Due.is("the byte of B's count stays", x.memory(105), 2);
    }

    private static void dataChecks() {
        CountKeyStore x = three();
        Due.is("spoil(1, 0, 0)", x.spoil(1, 0, 0) ? 1 : 0, 1);
        Due.is("spoil(1, 0, 2)", x.spoil(1, 0, 2) ? 1 : 0, 1);
        program(x, row(READ_COUNT, 100, 6, 0), row(READ_DATA, 110, 4, 0), row(NOTHING, 0, 0, 0));
        Due.is("a check goes ahead of a wrong length", x.start(1), 5);
        ended(x, 5, 3, 1, 2);
        Due.is("the bytes came", x.memory(110), 3);
        Due.is("time()", x.time(), 1563);
        program(x, row(READ_KEY, 100, 2, 0), row(READ_KEY, 100, 0, ANY));
        Due.is("B is whole, C without data is not", x.start(1), 5);
        ended(x, 5, 0, 1, 2);
        program(x, row(READ_ALL, 100, 0, ANY | DROP));
        Due.is("A", x.start(1), 5);
        program(x, row(READ_ALL, 100, 8, 0));
        Due.is("B", x.start(1), 0);
        program(x, row(READ_COUNT, 100, 6, 0));
        Due.is("a count is no data", x.start(1), 0);
    }

    private static void writingData() {
        CountKeyStore x = three();
        x.spoil(1, 0, 1);
        Due.poke(x, 0, 0, 0, 2, 50, 51, 52);
        program(x, row(ID, 0, 3, 0), row(JUMP, 0, 0, 0), row(WRITE_DATA, 3, 2, 0));
        Due.is("start(1)", x.start(1), 0);
        ended(x, 0, 0, 2, 4);
        Due.is("time()", x.time(), 1500 + 95);
        Due.is("data", x.record(1, 0, 1, 200), 50);
        Due.is("data", x.record(1, 0, 1, 201), 51);
        Due.is("it is whole", x.record(1, 0, 1, 6), 0);
        program(x, row(ID, 0, 3, 0), row(JUMP, 0, 0, 0), row(WRITE_DATA, 3, 3, 0));
        Due.is("too long", x.start(1), 3);
        ended(x, 3, 1, 2, 6);
        Due.is("data", x.record(1, 0, 1, 201), 51);
        x.spoil(1, 0, 1);
        program(x, row(ID, 0, 3, 0), row(JUMP, 0, 0, 0), row(WRITE_DATA, 5, 1, ANY));
        Due.is("too short", x.start(1), 0);
        ended(x, 0, 0, 2, 6);
        Due.is("data", x.record(1, 0, 1, 200), 52);
        Due.is("0s behind", x.record(1, 0, 1, 201), 0);
        Due.is("it is whole", x.record(1, 0, 1, 6), 0);
        Due.poke(x, 0, 1, 2, 88);
        program(x, row(HIGH, 0, 2, 0), row(JUMP, 0, 0, 0), row(WRITE_DATA, 2, 1, 0), row(READ_COUNT, 100, 6, 0));
        long turn = x.time() - x.time() % 1500 + 1500;
        Due.is("start(1)", x.start(1), 0);
        Due.is("the next is B", x.memory(102), 2);
        Due.is("time()", x.time(), turn + 73);
        Due.is("data", x.record(1, 0, 0, 200), 88);
        Due.is("the key stays", x.record(1, 0, 0, 101), 2);
        // Too few bytes for the data behind a key, and none of the record behind it.
        x = new CountKeyStore();
        lay(x, row(0, 0, 1, 2, 0, 3, 1, 2, 3, 4, 5), row(0, 0, 2, 0, 0, 1, 6));
        Due.poke(x, 0, 0, 0, 1, 99);
        program(x, row(ID, 0, 3, 0), row(JUMP, 0, 0, 0), row(WRITE_DATA, 3, 1, ANY), row(READ_DATA, 100, 1, 0));
        Due.is("start(1)", x.start(1), 0);
        Due.is("the point is nowhere then", x.memory(100), 6);
        Due.holds("the key", Due.keyIs(x, 1, 0, 0, 1, 2));
        for (int i = 0; i < 3; i++) {
            Due.is("the data", x.record(1, 0, 0, 200 + i), i == 0 ? 99 : 0);
        }
        program(x, row(ID, 0, 3, 0), row(JUMP, 0, 0, 0), row(WRITE_KEY, 3, 1, ANY), row(READ_DATA, 100, 1, 0));
        Due.is("start(1)", x.start(1), 0);
        Due.is("the point is nowhere then", x.memory(100), 6);
        Due.holds("the key", Due.keyIs(x, 1, 0, 0, 99, 0));
        Due.is("the data", x.record(1, 0, 0, 200), 0);
    }

    private static void writingKeys() {
        CountKeyStore x = three();
        x.spoil(1, 0, 0);
        Due.poke(x, 0, 0, 0, 1, 60, 61, 62);
        program(x, row(ID, 0, 3, 0), row(JUMP, 0, 0, 0), row(WRITE_KEY, 3, 3, 0));
        Due.is("start(1)", x.start(1), 0);
        ended(x, 0, 0, 2, 2);
        Due.is("time()", x.time(), 1500 + 63);
        Due.holds("the key", Due.keyIs(x, 1, 0, 0, 60, 61));
        Due.is("the data", x.record(1, 0, 0, 200), 62);
        Due.is("it is whole", x.record(1, 0, 0, 6), 0);
        program(x, row(ID, 0, 3, 0), row(JUMP, 0, 0, 0), row(WRITE_KEY, 4, 1, 0));
        Due.is("too short", x.start(1), 3);
        Due.holds("the key", Due.keyIs(x, 1, 0, 0, 61, 0));
        Due.is("the data", x.record(1, 0, 0, 200), 0);
        Due.is("it is there still", x.record(1, 0, 2, 0), 7);
    }

    private static void writingRecords() {
        CountKeyStore x = three();
        Due.poke(x, 0, 0, 0, 1, 5, 6, 7, 0, 0, 1, 30, 9);
        // Behind A: B and C are gone.
        program(x, row(ID, 0, 3, 0), row(JUMP, 0, 0, 0), row(WRITE_RECORD, 3, 8, 0), row(READ_COUNT, 100, 6, 0));
        Due.is("start(1)", x.start(1), 3);
        ended(x, 3, 1, 2, 2);
        Due.is("time()", x.time(), 1500 + 94);
        Due.is("record 1", x.record(1, 0, 1, 0), 5);
        Due.is("record 1", x.record(1, 0, 1, 2), 7);
        Due.is("its data", x.record(1, 0, 1, 200), 30);
        Due.is("record 2", x.record(1, 0, 2, 0), CountKeyStore.NONE);
        program(x, row(ID, 0, 3, 0), row(JUMP, 0, 0, 0), row(WRITE_RECORD, 3, 8, ANY), row(READ_COUNT, 100, 6, 0));
        Due.is("start(1)", x.start(1), 0);
        Due.is("behind it comes A", x.memory(102), 1);
        Due.is("time()", x.time(), 4540);
        program(x, row(ID, 0, 3, 0), row(JUMP, 0, 0, 0), row(WRITE_RECORD, 3, 6, ANY), row(WRITE_RECORD, 3, 6, ANY));
        Due.is("two more", x.start(1), 0);
        ended(x, 0, 0, 3, 5);
        Due.is("0s", x.record(1, 0, 1, 200), 0);
        Due.is("record 2", x.record(1, 0, 2, 5), 94);
        program(x, row(KEY, 0, 2, 0), row(JUMP, 0, 0, 0), row(WRITE_RECORD, 3, 7, 0));
        Due.is("no such key", x.start(1), 1);
        Due.poke(x, 40, 1, 2);
        program(x, row(KEY, 40, 2, 0), row(JUMP, 0, 0, 0), row(WRITE_RECORD, 3, 7, 0));
        Due.is("behind a key", x.start(1), 0);
        Due.is("record 1", x.record(1, 0, 1, 200), 30);
        Due.is("record 2", x.record(1, 0, 2, 0), CountKeyStore.NONE);
        program(x, row(READ_COUNT, 100, 6, 0), row(HOME, 0, 2, 0), row(JUMP, 1, 0, 0), row(WRITE_RECORD, 3, 7, 0));
        Due.is("at the home, whatever was before", x.start(1), 0);
        Due.is("record 0", x.record(1, 0, 0, 0), 5);
        Due.is("record 1", x.record(1, 0, 1, 0), CountKeyStore.NONE);
    }

    private static void badCountsAndFullTracks() {
        CountKeyStore x = three();
        Due.poke(x, 0, 0, 0, 0, 0, 1, 61, 0, 0);
        Due.poke(x, 10, 0, 0, 2, 0, 4, 177);
        Due.poke(x, 20, 0, 0, 3, 60, 4, 176);
        Due.poke(x, 30, 0, 0, 4, 30, 0, 0);
        Due.poke(x, 40, 0, 0, 5, 0, 0, 120);
        Due.poke(x, 50, 0, 0, 6, 0, 0, 121);
        long before = x.time();
        program(x, row(HOME, 0, 2, 0), row(JUMP, 0, 0, 0), row(WRITE_RECORD, 2, 6, ANY));
        Due.is("a key of 61", x.start(1), 7);
        ended(x, 7, 0, 2, 2);
        Due.is("time()", x.time(), 1530);
        Due.holds("time went on to the home", before < x.time());
        program(x, row(HOME, 0, 2, 0), row(JUMP, 0, 0, 0), row(WRITE_RECORD, 10, 50, 0));
        Due.is("data of 1201", x.start(1), 7);
        ended(x, 7, 0, 2, 2);
        Due.is("nothing changed", x.record(1, 0, 2, 0), 7);
        program(x, row(HOME, 0, 2, 0), row(JUMP, 0, 0, 0), row(WRITE_RECORD, 20, 6, ANY),
                row(WRITE_RECORD, 50, 127, ANY));
        Due.is("30 + 1290 + 151 and 30 more", x.start(1), 0);
        Due.is("record 1", x.record(1, 0, 1, 5), 1320);
        program(x, row(HOME, 0, 2, 0), row(JUMP, 0, 0, 0), row(WRITE_RECORD, 20, 6, ANY),
                row(WRITE_RECORD, 50, 127, 0), row(WRITE_RECORD, 30, 36, 0));
        Due.is("no room", x.start(1), 2);
        ended(x, 2, 0, 4, 4);
        Due.is("record 2", x.record(1, 0, 2, 5), CountKeyStore.NONE);
        Due.poke(x, 60, 0, 0, 7, 0, 0, 150);
        program(x, row(HOME, 0, 2, 0), row(JUMP, 0, 0, 0), row(WRITE_RECORD, 20, 6, ANY),
                row(WRITE_RECORD, 60, 156, 0));
        Due.is("to the last place", x.start(1), 0);
        Due.is("time() is at the index", x.time() % 1500, 0);
        Due.poke(x, 60, 0, 0, 7, 0, 0, 151);
        program(x, row(HOME, 0, 2, 0), row(JUMP, 0, 0, 0), row(WRITE_RECORD, 20, 6, ANY),
                row(WRITE_RECORD, 60, 157, 0));
        Due.is("one more", x.start(1), 2);
        Due.is("the first was written", x.record(1, 0, 1, 0), CountKeyStore.NONE);
    }

    private static void erasing() {
        CountKeyStore x = three();
        Due.poke(x, 0, 0, 0, 2);
        program(x, row(ID, 0, 3, 0), row(JUMP, 0, 0, 0), row(ERASE, -1, -1, 0));
        Due.is("start(1)", x.start(1), 0);
        ended(x, 0, 0, 2, 4);
        Due.is("time()", x.time(), 1500 + 95);
        Due.is("B is there", x.record(1, 0, 1, 2), 2);
        Due.is("C is gone", x.record(1, 0, 2, 2), CountKeyStore.NONE);
        program(x, row(HOME, 0, 2, 0), row(JUMP, 0, 0, 0), row(ERASE, 0, 0, 0));
        Due.is("start(1)", x.start(1), 0);
        Due.is("time()", x.time(), 3030);
        Due.is("A is gone", x.record(1, 0, 0, 2), CountKeyStore.NONE);
        Due.poke(x, 10, 1, 1, 1, 0, 0, 0);
        program(x, row(HOME, 0, 2, 0), row(JUMP, 0, 0, 0), row(WRITE_RECORD, 10, 6, 0), row(ERASE, 0, 0, 0));
        Due.is("start(1)", x.start(1), 0);
        Due.is("time()", x.time(), 4560);
        Due.is("one is there", x.record(1, 0, 0, 2), 1);
        x = three();
        Due.poke(x, 0, 0, 0, 1);
        program(x, row(ID, 0, 3, 0), row(JUMP, 0, 0, 0), row(ERASE, 0, 0, 0), row(READ_DATA, 100, 1, 0));
        Due.is("start(1)", x.start(1), 0);
        Due.is("the point is nowhere: a turn for A", x.time(), 3063);
        Due.is("A", x.memory(100), 3);
    }

    private static void passesAreCounted() {
        CountKeyStore x = three();
        Due.poke(x, 0, 0, 0, 99);
        // A read takes the passes away, so the search may pass the index once more.
        program(x, row(ID, 0, 3, 0), row(READ_DATA, 100, 9, ANY), row(ID, 0, 3, 0), row(JUMP, 2, 0, 0));
        Due.is("start(1)", x.start(1), 1);
        Due.is("time()", x.time(), 4500);
        ended(x, 1, 0, 2, 2 + 5 * 2 + 1);
        program(x, row(ID, 0, 3, 0), row(NOTHING, 0, 0, 0), row(ID, 0, 3, 0), row(JUMP, 2, 0, 0));
        Due.is("start(1)", x.start(1), 1);
        Due.is("time()", x.time(), 7500);
        ended(x, 1, 0, 2, 2 + 2 * 2 + 1 + 3 * 2);
    }

    private static void theIndexUnderTheHeads() {
        CountKeyStore x = new CountKeyStore();
        program(x, row(READ_COUNT, 0, 6, 0));
        Due.is("an empty track", x.start(1), 1);
        Due.is("time()", x.time(), 3000);
        Due.is("again", x.start(1), 1);
        Due.is("time()", x.time(), 6000);
        // A record that ends at 1500: the next one is the first, and no index was passed.
        lay(x, row(0, 0, 1, 60, 4, 176), row(0, 0, 2, 0, 0, 150));
        Due.is("time()", x.time(), 7500);
        program(x, row(READ_ALL, 0, 6, ANY), row(READ_ALL, 100, 6, ANY), row(READ_COUNT, 200, 6, 0));
        Due.is("start(1)", x.start(1), 0);
        Due.is("time()", x.time(), 9040);
        Due.is("the first again", x.memory(202), 1);
    }

    private static void recordsTold() {
        CountKeyStore x = three();
        int[][] due = {{0, 0, 1, 2, 1, 30, 0}, {0, 0, 2, 0, 2, 63, 0}, {7, 8, 9, 1, 0, 95, 0}};
        for (int k = 0; k < 3; k++) {
            for (int what = 0; what < 7; what++) {
                Due.is("record " + k + " " + what, x.record(1, 0, k, what), due[k][what]);
            }
            Due.is("what 7", x.record(1, 0, k, 7), CountKeyStore.NONE);
            Due.is("what -1", x.record(1, 0, k, -1), CountKeyStore.NONE);
            Due.is("what 99", x.record(1, 0, k, 99), CountKeyStore.NONE);
            Due.is("the least what", x.record(1, 0, k, Integer.MIN_VALUE), CountKeyStore.NONE);
            Due.is("the greatest what", x.record(1, 0, k, Integer.MAX_VALUE), CountKeyStore.NONE);
        }
        Due.is("key", x.record(1, 0, 0, 101), 2);
        Due.is("key", x.record(1, 0, 0, 102), CountKeyStore.NONE);
        Due.is("no key", x.record(1, 0, 1, 100), CountKeyStore.NONE);
        Due.is("data", x.record(1, 0, 1, 201), 5);
        Due.is("data", x.record(1, 0, 1, 202), CountKeyStore.NONE);
        Due.is("no data", x.record(1, 0, 2, 200), CountKeyStore.NONE);
        int[][] none = {{-1, 0, 0}, {2, 0, 0}, {1, -1, 0}, {1, 80, 0}, {1, 0, -1}, {1, 0, 3}, {0, 0, 0}, {1, 1, 0}};
        for (int[] at : none) {
            Due.is("record", x.record(at[0], at[1], at[2], 0), CountKeyStore.NONE);
            Due.is("spoil", x.spoil(at[0], at[1], at[2]) ? 1 : 0, 0);
        }
        Due.is("spoil(1, 0, 1)", x.spoil(1, 0, 1) ? 1 : 0, 1);
        Due.is("record(.., 6)", x.record(1, 0, 1, 6), 1);
        Due.is("spoil(1, 0, 1)", x.spoil(1, 0, 1) ? 1 : 0, 1);
        Due.is("record(.., 6)", x.record(1, 0, 0, 6), 0);
    }
}
