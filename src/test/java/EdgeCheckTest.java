/**
 * The boundary cases of THE PROGRAM and THE CHECK in terms II, of PROTECTED, and of promises 5 and 9;
 * above each test stands the sentence that it asks for.
 */
public final class EdgeCheckTest extends Rig {
    private static final int[][] LED_SEARCHES = {{HOME, 2}, {ID, 3}, {KEY, 1}, {HIGH, 1}};

    public static void main(String[] args) {
        commandRange();
        commandsAsTheyWereSet();
        programEnds();
        opsThatAre();
        command31();
        addressesAndLengths();
        addressesOfWrites();
        addressesThatAreNotAsked();
        lengthsOfSeekAndHome();
        lengthOfHead();
        lengthOfId();
        lengthsOfKeyAndHigh();
        lengthOfWriteRecord();
        jumpBehindASearch();
        jumpToItsSearch();
        writeDataIsLed();
        writeKeyIsLed();
        writeRecordAndEraseAreLed();
        behindAWriteRecord();
        notLedFurther();
        badProgramDoesNothing();
        protectedOps();
        protectedBehindTheCheck();
        protectedDoesNothing();
        statusOfOthers();
        statusAheadOfAny();
        statusOfTheLatest();
        commandsBegun();
        Due.settle();
    }

    private static void check(boolean good, int[]... rows) {
        CountKeyStore x = new CountKeyStore();
        int answer = run(x, rows);
        int[] last = rows[rows.length - 1];
        Due.is("BAD PROGRAM by op " + last[0] + " " + last[1] + " " + last[2], answer == BAD_PROGRAM ? 1 : 0, good ? 0 : 1);
        if (!good) {
            ended(x, BAD_PROGRAM, 0, NONE, 0);
            Due.is("time()", x.time(), 0);
        }
    }

    private static int[] jump(int to) {
        return row(JUMP, to, 0, 0);
    }

    // "COMMAND i: 1; RANGE: i is not 0 .. 31, flags are not 0 .. 7. (All else is asked by THE CHECK.)"
    private static void commandRange() {
        CountKeyStore x = new CountKeyStore();
        x.command(0, NOTHING, 0, 0, 0);
        for (int i : new int[] {-1, 32, MIN, MAX}) {
            Due.is("command " + i, x.command(i, SEEK, 0, 0, 0), RANGE);
        }
        for (int flags : new int[] {-1, 8, MIN, MAX}) {
            Due.is("flags " + flags, x.command(0, SEEK, 0, 0, flags), RANGE);
        }
        Due.is("the one before stays", x.start(1), NORMAL);
        Due.is("0", x.command(0, MIN, MAX, MIN, 0), 1);
        Due.is("31", x.command(31, MAX, MIN, MAX, 7), 1);
        Due.is("all else is asked later", x.start(1), BAD_PROGRAM);
        for (int flags = 0; flags < 8; flags++) {
            Due.is("flags " + flags, x.command(0, NOTHING, 0, 0, flags), 1);
            x.command(1, NOTHING, 0, 0, 0);
            Due.is("start(1)", x.start(1), NORMAL);
            ended(x, NORMAL, 0, flags % 2, 1 + flags % 2);
        }
    }

    // "COMMANDS 0 .. 31 have an OP, ADDRESS, LENGTH and FLAGS ... (all numbers 0 at first)."
    private static void commandsAsTheyWereSet() {
        CountKeyStore x = new CountKeyStore();
        x.command(0, NOTHING, 0, 0, CHAIN);
        Due.is("command 1 has OP 0", x.start(1), BAD_PROGRAM);
        x.command(0, NOTHING, 0, 0, 0);
        Due.is("alone", x.start(1), NORMAL);
        x.command(0, READ_COUNT, 5, 6, 0);
        Due.is("start(1)", x.start(1), NO_RECORD);
        x.command(0, READ_COUNT, 5, 2044, 0);
        Due.is("set anew", x.start(1), BAD_PROGRAM);
        x.command(0, READ_COUNT, 4, 2044, 0);
        Due.is("set anew", x.start(1), NO_RECORD);
    }

    // "THE PROGRAM is COMMAND 0 and those behind it up to the first without CHAIN (at most up to 31)."
    private static void programEnds() {
        CountKeyStore x = new CountKeyStore();
        x.command(1, 99, 0, 0, 0);
        x.command(0, NOTHING, 0, 0, ANY | DROP);
        Due.is("what is behind is not asked", x.start(1), NORMAL);
        ended(x, NORMAL, 0, 0, 1);
        x.command(0, NOTHING, 0, 0, CHAIN);
        Due.is("now it is", x.start(1), BAD_PROGRAM);
        for (int i = 0; i < 32; i++) {
            x.command(i, NOTHING, 0, 0, i < 31 ? CHAIN : 0);
        }
        Due.is("all of them", x.start(1), NORMAL);
        ended(x, NORMAL, 0, 31, 32);
        x.command(31, 0, 0, 0, 0);
        Due.is("the last is asked", x.start(1), BAD_PROGRAM);
        x.command(30, NOTHING, 0, 0, 0);
        Due.is("it is not of the program", x.start(1), NORMAL);
        ended(x, NORMAL, 0, 30, 31);
    }

    // "each COMMAND of THE PROGRAM has one of these"
    private static void opsThatAre() {
        for (int op : new int[] {0, -1, 17, MIN, MAX}) {
            check(false, row(op, 0, 0, 0));
            check(false, row(NOTHING, 0, 0, 0), row(op, 0, 0, 0));
            check(false, row(op, 0, 0, 0), row(NOTHING, 0, 0, 0));
        }
        check(true, row(1, 0, 2, 0));
        check(true, row(16, 0, 0, 0));
    }

    // "COMMAND 31 has no CHAIN"
    private static void command31() {
        CountKeyStore x = new CountKeyStore();
        for (int i = 0; i < 32; i++) {
            x.command(i, NOTHING, 0, 0, CHAIN);
        }
        Due.is("it has", x.start(1), BAD_PROGRAM);
        ended(x, BAD_PROGRAM, 0, NONE, 0);
        x.command(31, NOTHING, 0, 0, ANY | DROP);
        Due.is("it has not", x.start(1), NORMAL);
        ended(x, NORMAL, 0, 31, 32);
    }

    private static int lengthFor(int op) {
        switch (op) {
            case SEEK: case HOME: return 2;
            case ID: return 3;
            case WRITE_RECORD: return 6;
            default: return 1;
        }
    }

    // "for all OPS but JUMP, ERASE, NOTHING the ADDRESS and the LENGTH are not below 0, and together at most 2048"
    private static void addressesAndLengths() {
        for (int op = SEEK; op <= READ_ALL; op++) {
            if (op == JUMP) {
                continue;
            }
            int n = lengthFor(op);
            check(true, row(op, 0, n, 0));
            check(true, row(op, 2048 - n, n, 0));
            check(false, row(op, 2049 - n, n, 0));
            check(false, row(op, -1, n, 0));
            check(false, row(op, 0, -1, 0));
            check(false, row(op, 0, -n, 0));
            check(false, row(op, MIN, n, 0));
            check(false, row(op, MAX, n, 0));
            check(false, row(op, MAX, MAX, 0));
            check(false, row(op, MIN, MIN, 0));
        }
        for (int op = READ_COUNT; op <= READ_ALL; op++) {
            check(true, row(op, 0, 2048, 0));
            check(false, row(op, 0, 2049, 0));
            check(false, row(op, 1, 2048, 0));
            check(true, row(op, 2048, 0, 0));
            check(false, row(op, 2049, 0, 0));
            check(false, row(op, 2049, -1, 0));
            check(false, row(op, -1, 0, 0));
            check(false, row(op, 2048, 1, 0));
            check(true, row(op, 1024, 1024, 0));
            check(false, row(op, 1024, 1025, 0));
        }
    }

    // The same, of those that are LED.
    private static void addressesOfWrites() {
        for (int op = WRITE_DATA; op <= WRITE_RECORD; op++) {
            int n = op == WRITE_RECORD ? 6 : 0;
            int[] search = row(ID, 0, 3, 0);
            check(true, search, jump(0), row(op, 2048 - n, n, 0));
            check(false, search, jump(0), row(op, 2049 - n, n, 0));
            check(true, search, jump(0), row(op, 0, 2048, 0));
            check(false, search, jump(0), row(op, 0, 2049, 0));
            check(false, search, jump(0), row(op, -1, 6, 0));
            check(false, search, jump(0), row(op, 100, -1, 0));
            check(false, search, jump(0), row(op, MAX, MAX, 0));
        }
    }

    // The same: of JUMP the LENGTH, of ERASE and NOTHING both may be anything.
    private static void addressesThatAreNotAsked() {
        for (int odd : new int[] {-1, MIN, MAX, 2049}) {
            check(true, row(NOTHING, odd, odd, 0));
            check(true, row(HOME, 0, 2, 0), row(JUMP, 0, odd, 0));
            check(true, row(HOME, 0, 2, 0), jump(0), row(ERASE, odd, odd, 0));
        }
    }

    private static void lengths(int op, int least, int most) {
        check(false, row(op, 100, least - 1, 0));
        check(true, row(op, 100, least, 0));
        check(true, row(op, 100, most, 0));
        check(false, row(op, 100, most + 1, 0));
    }

    // "LENGTH is 2 of SEEK and HOME"
    private static void lengthsOfSeekAndHome() {
        lengths(SEEK, 2, 2);
        lengths(HOME, 2, 2);
    }

    // "1 of HEAD"
    private static void lengthOfHead() {
        lengths(HEAD, 1, 1);
    }

    // "3 of ID"
    private static void lengthOfId() {
        lengths(ID, 3, 3);
    }

    // "1 .. 60 of KEY and HIGH"
    private static void lengthsOfKeyAndHigh() {
        lengths(KEY, 1, 60);
        lengths(HIGH, 1, 60);
    }

    // "6 or more of WRITE RECORD"
    private static void lengthOfWriteRecord() {
        int[] search = row(HOME, 0, 2, 0);
        check(false, search, jump(0), row(WRITE_RECORD, 100, 0, 0));
        check(false, search, jump(0), row(WRITE_RECORD, 100, 5, 0));
        check(true, search, jump(0), row(WRITE_RECORD, 100, 6, 0));
        check(true, search, jump(0), row(WRITE_RECORD, 100, 1948, 0));
        check(true, search, jump(0), row(WRITE_RECORD, 100, 6, 0), row(WRITE_RECORD, 100, 6, 0));
        check(false, search, jump(0), row(WRITE_RECORD, 100, 6, 0), row(WRITE_RECORD, 100, 5, 0));
    }

    // "A JUMP stands right behind a SEARCH"
    private static void jumpBehindASearch() {
        check(false, jump(0));
        check(false, jump(-1));
        for (int op = SEEK; op <= NOTHING; op++) {
            boolean search = op >= HOME && op <= HIGH;
            if (op < JUMP || op > JUMP && op < WRITE_DATA || op == NOTHING) {
                check(search, row(op, 0, lengthFor(op), 0), jump(0));
                check(search, row(NOTHING, 0, 0, 0), row(op, 0, lengthFor(op), 0), jump(1));
            }
        }
        int[] id = row(ID, 0, 3, 0);
        check(false, id, jump(0), jump(0));
        check(false, id, jump(0), jump(1));
        check(false, id, row(NOTHING, 0, 0, 0), jump(0));
        check(false, id, jump(0), row(WRITE_DATA, 0, 1, 0), jump(0));
        check(false, id, jump(0), row(WRITE_RECORD, 0, 6, 0), jump(2));
        check(false, id, jump(0), row(ERASE, 0, 6, 0), jump(2));
    }

    // "and its ADDRESS is the number of that COMMAND."
    private static void jumpToItsSearch() {
        int[] id = row(ID, 0, 3, 0);
        int[] nothing = row(NOTHING, 0, 0, 0);
        for (int to : new int[] {-1, 1, 2, 31, 32, MIN, MAX}) {
            check(false, id, jump(to));
        }
        check(true, id, jump(0));
        for (int to = -1; to < 6; to++) {
            check(to == 3, nothing, id, nothing, id, jump(to), nothing);
        }
        check(true, id, id, jump(1));
        check(false, id, id, jump(0));
    }

    // "WRITE DATA is LED by ID, KEY or HIGH"
    private static void writeDataIsLed() {
        for (int[] search : LED_SEARCHES) {
            check(search[0] != HOME, row(search[0], 0, search[1], 0), jump(0), row(WRITE_DATA, 0, 1, 0));
            check(false, row(search[0], 0, search[1], 0), row(WRITE_DATA, 0, 1, 0));
        }
        check(false, row(WRITE_DATA, 0, 1, 0));
    }

    // "WRITE KEY by ID"
    private static void writeKeyIsLed() {
        for (int[] search : LED_SEARCHES) {
            check(search[0] == ID, row(search[0], 0, search[1], 0), jump(0), row(WRITE_KEY, 0, 1, 0));
            check(false, row(search[0], 0, search[1], 0), row(WRITE_KEY, 0, 1, 0));
        }
        check(false, row(WRITE_KEY, 0, 1, 0));
    }

    // "WRITE RECORD and ERASE by any SEARCH"
    private static void writeRecordAndEraseAreLed() {
        for (int op = WRITE_RECORD; op <= ERASE; op++) {
            for (int[] search : LED_SEARCHES) {
                check(true, row(search[0], 0, search[1], 0), jump(0), row(op, 0, 6, 0));
                check(false, row(search[0], 0, search[1], 0), row(op, 0, 6, 0));
            }
            check(false, row(op, 0, 6, 0));
            check(false, row(NOTHING, 0, 0, 0), row(op, 0, 6, 0));
        }
    }

    // "or they stand right behind a WRITE RECORD."
    private static void behindAWriteRecord() {
        int[] home = row(HOME, 0, 2, 0);
        int[] id = row(ID, 0, 3, 0);
        int[] write = row(WRITE_RECORD, 0, 6, 0);
        check(true, home, jump(0), write, write);
        check(true, home, jump(0), write, write, write, row(ERASE, 0, 0, 0));
        check(false, id, jump(0), write, row(WRITE_DATA, 0, 6, 0));
        check(false, id, jump(0), write, row(WRITE_KEY, 0, 6, 0));
        for (int op = WRITE_DATA; op <= ERASE; op++) {
            check(false, id, jump(0), row(ERASE, 0, 0, 0), row(op, 0, 6, 0));
            check(false, id, jump(0), write, row(NOTHING, 0, 0, 0), row(op, 0, 6, 0));
            check(false, id, jump(0), row(WRITE_DATA, 0, 6, 0), row(op, 0, 6, 0));
            check(false, id, jump(0), row(WRITE_KEY, 0, 6, 0), row(op, 0, 6, 0));
        }
    }

    // "A COMMAND right behind a JUMP is LED by that SEARCH." (one further behind is not)
    private static void notLedFurther() {
        int[] id = row(ID, 0, 3, 0);
        for (int op = WRITE_DATA; op <= ERASE; op++) {
            check(false, id, jump(0), row(NOTHING, 0, 0, 0), row(op, 0, 6, 0));
            check(false, id, jump(0), row(READ_COUNT, 0, 6, 0), row(op, 0, 6, 0));
            // LED by the later of two searches.
            check(op >= WRITE_RECORD, id, jump(0), row(HOME, 0, 2, 0), jump(2), row(op, 0, 6, 0));
            check(true, row(HOME, 0, 2, 0), jump(0), id, jump(2), row(op, 0, 6, 0));
        }
    }

    // "4 BAD PROGRAM (THE CHECK; nothing is done)"
    private static void badProgramDoesNothing() {
        CountKeyStore x = three();
        Due.poke(x, 0, 5, 1);
        Due.is("SEEK, then what is bad", run(x, row(SEEK, 0, 2, 0), row(READ_ALL, 100, 9, ANY), row(HOME, 50, 2, 0),
                jump(2), row(ERASE, 0, 0, 0), jump(0)), BAD_PROGRAM);
        ended(x, BAD_PROGRAM, 0, NONE, 0);
        Due.is("the arm", x.arm(1, 0), 0);
        Due.is("time()", x.time(), 126);
        Due.is("memory(100)", x.memory(100), 0);
        Due.is("A is there", x.record(1, 0, 0, 2), 1);
    }

    // "8 PROTECTED (THE PROGRAM is for UNIT 0 and has a 12 .. 15 ..."
    private static void protectedOps() {
        for (int op = SEEK; op <= NOTHING; op++) {
            CountKeyStore x = new CountKeyStore();
            if (op == JUMP) {
                program(x, row(HOME, 0, 2, 0), jump(0));
            } else if (op >= WRITE_DATA && op <= ERASE) {
                program(x, row(ID, 0, 3, 0), jump(0), row(op, 0, 6, 0));
            } else {
                program(x, row(op, 0, lengthFor(op), 0));
            }
            boolean writes = op >= 12 && op <= 15;
            Due.is("op " + op + " with unit 0", x.start(0) == PROTECTED ? 1 : 0, writes ? 1 : 0);
            Due.is("op " + op + " with unit 1", x.start(1) == PROTECTED ? 1 : 0, 0);
        }
        CountKeyStore x = new CountKeyStore();
        program(x, row(ID, 0, 3, 0), jump(0), row(ERASE, 0, 0, 0), row(NOTHING, 0, 0, 0));
        Due.is("not the last", x.start(0), PROTECTED);
        x.command(1, JUMP, 0, 0, 0);
        Due.is("behind the program", x.start(0), NO_RECORD);
    }

    // "... behind THE CHECK ..."
    private static void protectedBehindTheCheck() {
        CountKeyStore x = new CountKeyStore();
        program(x, row(WRITE_DATA, 0, 1, 0));
        Due.is("start(0)", x.start(0), BAD_PROGRAM);
        program(x, row(HOME, 0, 2, 0), jump(0), row(ERASE, 0, 0, 0), jump(9));
        Due.is("start(0)", x.start(0), BAD_PROGRAM);
        ended(x, BAD_PROGRAM, 0, NONE, 0);
    }

    // "... nothing is done)."
    private static void protectedDoesNothing() {
        CountKeyStore x = new CountKeyStore();
        Due.allocate(x, "A", FIXED, 1, 1, 1);
        Due.poke(x, 0, 5, 1);
        program(x, row(SEEK, 0, 2, 0), row(HOME, 0, 2, 0), jump(1), row(ERASE, 0, 0, 0));
        Due.is("start(0)", x.start(0), PROTECTED);
        ended(x, PROTECTED, 0, NONE, 0);
        Due.is("the arm", x.arm(0, 0), 0);
        Due.is("time()", x.time(), 0);
        Due.is("the table", x.record(0, 0, 0, 2), 1);
    }

    // "NONE for another what."
    private static void statusOfOthers() {
        CountKeyStore x = new CountKeyStore();
        for (int i = 0; i < 2; i++) {
            for (int what : new int[] {-1, 4, MIN, MAX}) {
                Due.is("status " + what, x.status(what), NONE);
            }
            run(x, row(NOTHING, 0, 0, 0));
        }
    }

    // "2: the COMMAND at which it ended (NONE of 4 and 8, and ahead of any)"
    private static void statusAheadOfAny() {
        CountKeyStore x = new CountKeyStore();
        ended(x, NORMAL, 0, NONE, 0);
        run(x, row(NOTHING, 0, 0, 0));
        ended(x, NORMAL, 0, 0, 1);
        run(x, row(0, 0, 0, 0));
        ended(x, BAD_PROGRAM, 0, NONE, 0);
        run(x, row(NOTHING, 0, 0, 0));
        ended(x, NORMAL, 0, 0, 1);
        program(x, row(HOME, 0, 2, 0), jump(0), row(ERASE, 0, 0, 0));
        x.start(0);
        ended(x, PROTECTED, 0, NONE, 0);
        // A RESIDUAL of the one before is gone.
        for (int unit = 0; unit < 2; unit++) {
            x = three();
            run(x, row(READ_ALL, 100, 20, 0));
            ended(x, WRONG_LENGTH, 11, 0, 1);
            program(x, row(HOME, 0, 2, 0), jump(unit), row(ERASE, 0, 0, 0));
            Due.is("start", x.start(unit), unit == 0 ? PROTECTED : BAD_PROGRAM);
            ended(x, unit == 0 ? PROTECTED : BAD_PROGRAM, 0, NONE, 0);
        }
    }

    // "Of the latest program" (whatever UNIT it was for; a start() that is refused is none)
    private static void statusOfTheLatest() {
        CountKeyStore x = three();
        program(x, row(READ_ALL, 100, 20, 0));
        Due.is("start(1)", x.start(1), WRONG_LENGTH);
        ended(x, WRONG_LENGTH, 11, 0, 1);
        Due.is("start(2)", x.start(2), RANGE);
        ended(x, WRONG_LENGTH, 11, 0, 1);
        Due.is("start(0)", x.start(0), NO_RECORD);
        ended(x, NO_RECORD, 0, 0, 1);
    }

    // "3: how many COMMANDS were begun."
    private static void commandsBegun() {
        CountKeyStore x = three();
        Due.poke(x, 0, 7, 8, 9);
        Due.is("each time it is begun", run(x, row(ID, 0, 3, 0), jump(0), row(NOTHING, 0, 0, 0)), NORMAL);
        ended(x, NORMAL, 0, 2, 6);
        Due.is("one that is skipped is not", run(x, row(HOME, 100, 2, 0), row(NOTHING, 0, 0, 0)), NORMAL);
        ended(x, NORMAL, 0, 0, 1);
        Due.is("one at which it ended is", run(x, row(NOTHING, 0, 0, 0), row(READ_ALL, 100, 0, 0), row(NOTHING, 0, 0, 0)), WRONG_LENGTH);
        ended(x, WRONG_LENGTH, 0, 1, 2);
    }
}
