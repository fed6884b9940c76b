/**
 * What tests of programs share: names for the numbers of the document, programs set as rows, and
 * records laid on a track of unit 1. A test extends it to have the names at hand.
 */
class Rig {
    static final int NONE = CountKeyStore.NONE;
    static final int RANGE = CountKeyStore.RANGE;
    static final int STATE = CountKeyStore.STATE;
    static final int FULL = CountKeyStore.FULL;
    static final int LENGTH = CountKeyStore.LENGTH;
    static final int CHECK = CountKeyStore.CHECK;
    static final int TWICE = CountKeyStore.TWICE;
    static final int BUSY = CountKeyStore.BUSY;

    static final int MIN = Integer.MIN_VALUE;
    static final int MAX = Integer.MAX_VALUE;

    static final int CHAIN = 1;
    static final int ANY = 2;
    static final int DROP = 4;

    static final int SEEK = 1;
    static final int HEAD = 2;
    static final int HOME = 3;
    static final int ID = 4;
    static final int KEY = 5;
    static final int HIGH = 6;
    static final int JUMP = 7;
    static final int READ_COUNT = 8;
    static final int READ_KEY = 9;
    static final int READ_DATA = 10;
    static final int READ_ALL = 11;
    static final int WRITE_DATA = 12;
    static final int WRITE_KEY = 13;
    static final int WRITE_RECORD = 14;
    static final int ERASE = 15;
    static final int NOTHING = 16;

    static final int NORMAL = 0;
    static final int NO_RECORD = 1;
    static final int TRACK_FULL = 2;
    static final int WRONG_LENGTH = 3;
    static final int BAD_PROGRAM = 4;
    static final int DATA_CHECK = 5;
    static final int BAD_PLACE = 6;
    static final int BAD_COUNT = 7;
    static final int PROTECTED = 8;

    static final int FIXED = 0;
    static final int VARIABLE = 1;
    static final int SPANNED = 2;
    static final int DIRECT = 3;
    static final int LIBRARY = 4;

    static final int TO_GET = 0;
    static final int TO_PUT = 1;
    static final int TO_CHANGE = 2;

    static int[] row(int... of) {
        return of;
    }

    /** Sets a program of rows {op, address, length, flags}; all but the last one chain. */
    static void program(CountKeyStore x, int[]... rows) {
        for (int i = 0; i < rows.length; i++) {
            int chain = i + 1 < rows.length ? CHAIN : 0;
            Due.is("command", x.command(i, rows[i][0], rows[i][1], rows[i][2], rows[i][3] | chain), 1);
        }
    }

    /** Sets a program and does it with unit 1. */
    static int run(CountKeyStore x, int[]... rows) {
        program(x, rows);
        return x.start(1);
    }

    static void ended(CountKeyStore x, int status, int residual, int at, int begun) {
        Due.is("status(0)", x.status(0), status);
        Due.is("status(1)", x.status(1), residual);
        Due.is("status(2)", x.status(2), at);
        Due.is("status(3)", x.status(3), begun);
    }

    /** The bytes of a count. */
    static int[] count(int cylinder, int head, int number, int key, int data) {
        return row(cylinder, head, number, key, data / 256, data % 256);
    }

    /**
     * The track at the arm of unit 1 has the records that stand in these rows, each a count and the
     * bytes behind it (0s where there are too few); the memory from 1000 on is used for it.
     */
    static void lay(CountKeyStore x, int[]... records) {
        int[][] rows = new int[records.length + 2][];
        Due.poke(x, 2000, x.arm(1, 0), x.arm(1, 1));
        rows[0] = row(HOME, 2000, 2, 0);
        rows[1] = row(JUMP, 0, 0, 0);
        int at = 1000;
        for (int i = 0; i < records.length; i++) {
            Due.poke(x, at, records[i]);
            rows[i + 2] = row(WRITE_RECORD, at, records[i].length, ANY);
            at += records[i].length;
        }
        Due.is("start(1)", run(x, rows), NORMAL);
    }

    /** A store whose unit 1 has, on track 0, A (key 1 2, data 3), B (no key, data 4 5), C (key 9). */
    static CountKeyStore three() {
        CountKeyStore x = new CountKeyStore();
        lay(x, row(0, 0, 1, 2, 0, 1, 1, 2, 3), row(0, 0, 2, 0, 0, 2, 4, 5), row(7, 8, 9, 1, 0, 0, 9));
        Due.is("time()", x.time(), 126);
        return x;
    }
}
