/**
 * The boundary cases of libraries: THE LIST and press() in terms III and promises 26 to 30; above each
 * test stands the sentence that it asks for.
 */
public final class EdgeLibraryTest extends Rig {
    public static void main(String[] args) {
        listOf0();
        listOf4();
        listOf5();
        listOf40();
        listByBytes();
        listAtEachChange();
        memberWithoutBlocks();
        blocksOfTwoBytes();
        memberState();
        memberNone();
        memberNames();
        memberFromItsFirst();
        memberToItsLast();
        memberOverTracks();
        stowState();
        stowInPlace();
        stowSinceTheLatest();
        stowThe41st();
        stowThe41stInPlace();
        memberAtNone();
        dropNone();
        dropBusy();
        dropToNone();
        dropFrom40();
        pressNone();
        pressBusy();
        pressOfNothing();
        pressInTheirOrder();
        pressNothingElse();
        pressMarks();
        pressOverTracks();
        pressThenPut();
        Due.settle();
    }

    private static CountKeyStore with(int tracks, int a, int b) {
        CountKeyStore x = new CountKeyStore();
        Due.is("allocate", Due.allocate(x, "LIB", LIBRARY, tracks, a, b), 0);
        return x;
    }

    private static CountKeyStore toPut(int tracks, int a, int b) {
        CountKeyStore x = with(tracks, a, b);
        Due.is("open", Due.open(x, "LIB", TO_PUT), 0);
        return x;
    }

    /** Member of one byte a record, of these bytes, with the library open to put. */
    private static void stow(CountKeyStore x, String name, int due, int... bytes) {
        for (int b : bytes) {
            Due.is("put", Due.put(x, 0, b), 1);
        }
        Due.is("stow " + name, Due.stow(x, 0, name), due);
    }

    private static int[] entry(String name, int track, int number, int blocks) {
        int[] bytes = java.util.Arrays.copyOf(Due.bytes(name), 12);
        for (int i = name.length(); i < 8; i++) {
            bytes[i] = 32;
        }
        bytes[8] = track;
        bytes[9] = number;
        bytes[10] = blocks / 256;
        bytes[11] = blocks % 256;
        return bytes;
    }

    /** The list on the set's track 0, which is track 1 of the unit, has these entries; of ten records four are asked. */
    private static void listIs(CountKeyStore x, int[]... entries) {
        int records = (entries.length + 3) / 4;
        for (int k = 0; k < records; k += records == 10 ? 3 : 1) {
            int[] data = {};
            int last = Math.min(entries.length, 4 * k + 4) - 1;
            for (int i = 4 * k; i <= last; i++) {
                data = Due.join(data, entries[i]);
            }
            Due.is("cylinder", x.record(0, 1, k, 0), 0);
            Due.is("head", x.record(0, 1, k, 1), 1);
            Due.is("number", x.record(0, 1, k, 2), k + 1);
            Due.holds("KEY of record " + k, Due.keyIs(x, 0, 1, k, java.util.Arrays.copyOf(entries[last], 8)));
            Due.holds("DATA of record " + k, Due.dataIs(x, 1, k, data));
        }
        Due.is("no more records", x.record(0, 1, records, 2), NONE);
        Due.is("members", x.dataSet(0, 6), entries.length);
    }

    private static void has(CountKeyStore x, String name, int blocks, int... bytes) {
        Due.is("open", Due.open(x, "LIB", TO_GET), 0);
        Due.is("member " + name, Due.member(x, 0, name), blocks);
        for (int b : bytes) {
            Due.is("get", x.get(0), 1);
            Due.is("OUT", x.out(0), b);
        }
        Due.is("get", x.get(0), NONE);
        x.close(0);
    }

    // "members by NAME (bytes), 4 a RECORD (number 1, 2, ..)": of none there is no RECORD
    private static void listOf0() {
        CountKeyStore x = toPut(2, 1, 1);
        listIs(x);
        Due.put(x, 0, 1);
        listIs(x);
        x.close(0);
        listIs(x);
        Due.is("press", x.press(0), 0);
        listIs(x);
    }

    // The same, of 4: one RECORD
    private static void listOf4() {
        CountKeyStore x = toPut(2, 1, 1);
        stow(x, "D", 1, 1);
        listIs(x, entry("D", 1, 1, 1));
        stow(x, "B", 2, 2, 3);
        listIs(x, entry("B", 1, 2, 2), entry("D", 1, 1, 1));
        stow(x, "A", 3, 4);
        stow(x, "C", 4, 5);
        listIs(x, entry("A", 1, 4, 1), entry("B", 1, 2, 2), entry("C", 1, 5, 1), entry("D", 1, 1, 1));
    }

    // The same, of 5: two RECORDS, the second of one
    private static void listOf5() {
        CountKeyStore x = toPut(2, 1, 1);
        for (int i = 0; i < 5; i++) {
            stow(x, "" + (char) ('E' - i), i + 1, i);
        }
        int[][] due = new int[5][];
        for (int i = 0; i < 5; i++) {
            due[i] = entry("" + (char) ('A' + i), 1, 5 - i, 1);
        }
        listIs(x, due);
        Due.is("the second record", x.record(0, 1, 1, 5), 30 + 30 + 8 + 48);
        x.close(0);
        Due.is("drop", x.drop(0, 4), 4);
        listIs(x, due[0], due[1], due[2], due[3]);
    }

    // "At most 40."
    private static void listOf40() {
        CountKeyStore x = toPut(2, 1, 1);
        int[][] due = new int[40][];
        // In no order; each third has a block.
        int blocks = 0;
        for (int n = 0; n < 40; n++) {
            int i = n * 23 % 40;
            String name = "" + (char) ('0' + i / 4) + (char) ('0' + i % 4);
            boolean has = n % 3 == 0;
            if (has) {
                Due.put(x, 0, i);
                blocks++;
            }
            Due.is("stow", Due.stow(x, 0, name), n + 1);
            due[i] = entry(name, has ? 1 : 0, has ? blocks : 0, has ? 1 : 0);
        }
        listIs(x, due);
        Due.is("the tenth record", x.record(0, 1, 9, 5), 30 + 9 * 86);
        Due.is("it ends", x.record(0, 1, 9, 5) + 30 + 8 + 48, 890);
    }

    // "members by NAME (bytes)": 255 is above 127, and the last byte counts
    private static void listByBytes() {
        CountKeyStore x = toPut(2, 1, 1);
        int[][] names = {{255}, {127}, {128}, {0}, {65, 65, 65, 65, 65, 65, 65, 66}, {65, 65, 65, 65, 65, 65, 65, 65}, {65, 65}, {65, 31}};
        for (int[] name : names) {
            Due.fill(x, name);
            x.stow(0);
        }
        int[][] due = {{0}, {65, 31}, {65, 65}, {65, 65, 65, 65, 65, 65, 65, 65}, {65, 65, 65, 65, 65, 65, 65, 66}, {127}, {128}, {255}};
        // 65 65 and 32s is below 65 65 65 ..
        for (int i = 0; i < 8; i++) {
            Due.is("memberAt", x.memberAt(0, i), 8);
            for (int j = 0; j < 8; j++) {
                Due.is("byte " + j, x.out(j), j < due[i].length ? due[i][j] : 32);
            }
        }
        Due.is("the first record's KEY", x.record(0, 1, 0, 107), 65);
        Due.is("the second's", x.record(0, 1, 1, 100), 255);
    }

    // "TRACK 0 of the set has THE LIST, written anew at each change"
    private static void listAtEachChange() {
        CountKeyStore x = toPut(2, 1, 1);
        stow(x, "A", 1, 1);
        x.spoil(0, 1, 0);
        Due.put(x, 0, 2);
        Due.is("put: no change", x.record(0, 1, 0, 6), 1);
        stow(x, "B", 2);
        Due.is("stow", x.record(0, 1, 0, 6), 0);
        x.spoil(0, 1, 0);
        stow(x, "A", 2, 3);
        Due.is("stow in place", x.record(0, 1, 0, 6), 0);
        listIs(x, entry("A", 1, 3, 1), entry("B", 1, 2, 1));
        x.close(0);
        x.spoil(0, 1, 0);
        Due.is("press", x.press(0), 2);
        Due.is("press", x.record(0, 1, 0, 6), 0);
        listIs(x, entry("A", 1, 2, 1), entry("B", 1, 1, 1));
        x.spoil(0, 1, 0);
        Due.is("drop", x.drop(0, 0), 1);
        Due.is("drop", x.record(0, 1, 0, 6), 0);
        listIs(x, entry("B", 1, 1, 1));
        x.spoil(0, 1, 0);
        x.drop(0, 1);
        x.memberAt(0, 0);
        Due.open(x, "LIB", TO_GET);
        x.press(0);
        Due.member(x, 0, "B");
        x.get(0);
        Due.fill(x, "LIB");
        x.extend(1);
        Due.is("no change", x.record(0, 1, 0, 6), 1);
        Due.is("a member is found all the same", Due.member(x, 0, "B"), 1);
    }

    // "of one without BLOCKS 0, 0, 0."
    private static void memberWithoutBlocks() {
        CountKeyStore x = toPut(2, 1, 1);
        stow(x, "A", 1, 1);
        stow(x, "E", 2);
        stow(x, "F", 3);
        listIs(x, entry("A", 1, 1, 1), entry("E", 0, 0, 0), entry("F", 0, 0, 0));
        stow(x, "A", 3);
        listIs(x, entry("A", 0, 0, 0), entry("E", 0, 0, 0), entry("F", 0, 0, 0));
        x.close(0);
        has(x, "A", 0);
        Due.is("press", x.press(0), 0);
        listIs(x, entry("A", 0, 0, 0), entry("E", 0, 0, 0), entry("F", 0, 0, 0));
        Due.is("nothing is left", x.record(0, 2, 0, 2), NONE);
    }

    // "how many BLOCKS it has (two bytes)"
    private static void blocksOfTwoBytes() {
        // 50 places a block: 29 a track. In 512 calls there can't be 256 of them, so the higher byte is 0.
        CountKeyStore x = toPut(8, 20, 1);
        for (int i = 0; i < 200; i++) {
            x.feed(0, 0, 0, 0, i);
            Due.is("put", x.put(0), 1);
        }
        Due.is("stow", Due.stow(x, 0, "M"), 1);
        listIs(x, entry("M", 1, 1, 200));
        Due.is("the last block", x.record(0, 8, 25, 219), 199);
        Due.is("and no more", x.record(0, 8, 26, 219), NONE);
        x.close(0);
        Due.open(x, "LIB", TO_GET);
        Due.is("member", Due.member(x, 0, "M"), 200);
    }

    // "STATE: no such h, no LIBRARY, opened to put" (of member)
    private static void memberState() {
        CountKeyStore x = toPut(2, 1, 1);
        stow(x, "M", 1, 1);
        for (int h : new int[] {-1, 1, 3, 4, MIN, MAX}) {
            Due.is("member " + h, Due.member(x, h, "M"), STATE);
        }
        Due.is("to put", Due.member(x, 0, "M"), STATE);
        Due.is("to put, none such", Due.member(x, 0, "X"), STATE);
        x.close(0);
        Due.is("closed", Due.member(x, 0, "M"), STATE);
        for (int kind : new int[] {FIXED, VARIABLE, SPANNED, DIRECT}) {
            Due.allocate(x, "K" + kind, kind, 1, kind == VARIABLE || kind == SPANNED ? 0 : 1, 8);
            Due.open(x, "K" + kind, TO_GET);
            Due.is("kind " + kind, Due.member(x, 0, "M"), STATE);
            x.close(0);
        }
    }

    // "NONE (the one before stays)."
    private static void memberNone() {
        CountKeyStore x = toPut(2, 1, 2);
        stow(x, "A", 1, 1, 2, 3);
        stow(x, "B", 2, 4);
        x.close(0);
        Due.open(x, "LIB", TO_GET);
        Due.is("none such", Due.member(x, 0, "X"), NONE);
        Due.is("there is none before", x.get(0), STATE);
        Due.is("A", Due.member(x, 0, "A"), 2);
        Due.is("get", x.get(0), 1);
        Due.is("none such", Due.member(x, 0, "X"), NONE);
        Due.is("get", x.get(0), 1);
        Due.is("OUT", x.out(0), 2);
        Due.is("none such", Due.member(x, 0, ""), NONE);
        Due.is("get", x.get(0), 1);
        Due.is("OUT", x.out(0), 3);
        Due.is("none such", Due.member(x, 0, "X"), NONE);
        Due.is("behind its last", x.get(0), NONE);
        Due.is("OUT stays", x.out(0), 3);
    }

    // "The member with the NAME in THE BUFFER": eight bytes, 32s behind them
    private static void memberNames() {
        CountKeyStore x = toPut(2, 1, 1);
        stow(x, "", 1, 1);
        stow(x, "ABCDEFGHI", 2, 2);
        stow(x, "ABCDEFGX", 3, 3);
        stow(x, "AB", 4, 4);
        x.close(0);
        has(x, "        ", 1, 1);
        has(x, "ABCDEFGH", 1, 2);
        has(x, "ABCDEFGHXX", 1, 2);
        has(x, "ABCDEFGX", 1, 3);
        has(x, "AB ", 1, 4);
        Due.open(x, "LIB", TO_GET);
        Due.is("ABC", Due.member(x, 0, "ABC"), NONE);
        Due.is("A", Due.member(x, 0, "A"), NONE);
    }

    // "is what get() tells from its first record on: how many BLOCKS it has."
    private static void memberFromItsFirst() {
        CountKeyStore x = toPut(2, 1, 2);
        stow(x, "A", 1, 1, 2, 3);
        stow(x, "B", 2, 4, 5);
        x.close(0);
        Due.open(x, "LIB", TO_GET);
        for (int times = 0; times < 2; times++) {
            Due.is("A", Due.member(x, 0, "A"), 2);
            x.get(0);
            Due.is("OUT", x.out(0), 1);
            x.get(0);
            Due.is("B", Due.member(x, 0, "B"), 1);
            x.get(0);
            Due.is("OUT", x.out(0), 4);
        }
        Due.is("records", x.opened(0, 2), 6);
    }

    // The same: not on into the next one, nor into what was given up
    private static void memberToItsLast() {
        CountKeyStore x = toPut(2, 1, 2);
        stow(x, "A", 1, 1, 2);
        stow(x, "B", 2, 3);
        stow(x, "C", 3, 4, 5, 6);
        Due.put(x, 0, 7);
        Due.put(x, 0, 8);
        x.close(0);
        has(x, "A", 1, 1, 2);
        has(x, "B", 1, 3);
        has(x, "C", 2, 4, 5, 6);
        x.spoil(0, 2, 3);
        Due.open(x, "LIB", TO_GET);
        Due.member(x, 0, "C");
        x.get(0);
        x.get(0);
        Due.is("its last block is spoiled", x.get(0), CHECK);
        Due.is("OUT stays", x.out(0), 5);
        Due.is("behind its last", x.get(0), NONE);
    }

    // The same, over TRACKS.
    private static void memberOverTracks() {
        CountKeyStore x = toPut(4, 200, 5);
        int[] firsts = {0, 50, 100};
        int[] records = {3, 7, 4};
        for (int m = 0; m < 3; m++) {
            for (int i = 0; i < records[m]; i++) {
                Due.is("put", Due.put(x, 0, Due.row(200, firsts[m] + i)), 1);
            }
            Due.is("stow", Due.stow(x, 0, "M" + m), m + 1);
        }
        // 630; 1030 does not fit behind it, 430 does; 830 on the third.
        listIs(x, entry("M0", 1, 1, 1), entry("M1", 2, 1, 2), entry("M2", 3, 1, 1));
        x.close(0);
        Due.open(x, "LIB", TO_GET);
        for (int m = 2; m >= 0; m--) {
            Due.member(x, 0, "M" + m);
            for (int i = 0; i < records[m]; i++) {
                Due.is("get", x.get(0), 200);
                Due.is("OUT", x.out(0), firsts[m] + i);
            }
            Due.is("get", x.get(0), NONE);
        }
    }

    // "STATE: no such h, no LIBRARY, not opened to put" (of stow)
    private static void stowState() {
        CountKeyStore x = with(2, 1, 1);
        for (int h : new int[] {-1, 0, 3, 4, MIN, MAX}) {
            Due.is("stow " + h, Due.stow(x, h, "M"), STATE);
        }
        Due.open(x, "LIB", TO_GET);
        Due.is("to get", Due.stow(x, 0, "M"), STATE);
        x.close(0);
        for (int kind : new int[] {FIXED, VARIABLE, SPANNED}) {
            Due.allocate(x, "K" + kind, kind, 1, kind == FIXED ? 4 : 0, kind == FIXED ? 2 : 8);
            Due.open(x, "K" + kind, TO_PUT);
            for (int i = 0; i < 3; i++) {
                Due.put(x, 0, 1, 2, 3, 4);
            }
            Due.is("kind " + kind, Due.stow(x, 0, "M"), STATE);
            Due.is("the block stays", x.opened(0, 3) > 0 ? 1 : 0, 1);
            Due.is("what is written stays", x.record(0, 3 + kind, 0, 4), 8);
            x.close(0);
        }
        Due.allocate(x, "D", DIRECT, 1, 1, 1);
        Due.open(x, "D", TO_CHANGE);
        Due.is("DIRECT", Due.stow(x, 0, "M"), STATE);
        Due.is("no members", x.dataSet(0, 6), 0);
    }

    // "in place of one of that NAME: how many members there are."
    private static void stowInPlace() {
        CountKeyStore x = toPut(2, 1, 1);
        stow(x, "A", 1, 1);
        stow(x, "B", 2, 2, 3);
        stow(x, "C", 3, 4);
        stow(x, "B", 3, 5);
        listIs(x, entry("A", 1, 1, 1), entry("B", 1, 5, 1), entry("C", 1, 4, 1));
        Due.is("the old blocks are there", x.record(0, 2, 1, 200), 2);
        x.close(0);
        has(x, "A", 1, 1);
        has(x, "B", 1, 5);
        has(x, "C", 1, 4);
    }

    // "What was put since it was opened, or since the latest stow()"
    private static void stowSinceTheLatest() {
        CountKeyStore x = toPut(2, 1, 2);
        Due.put(x, 0, 1);
        Due.put(x, 0, 2);
        Due.put(x, 0, 3);
        Due.is("a block waits", x.opened(0, 3), 1);
        stow(x, "A", 1);
        Due.is("none waits", x.opened(0, 3), 0);
        stow(x, "B", 2);
        stow(x, "C", 3, 4);
        x.close(0);
        // What was put without a stow() is given up.
        Due.open(x, "LIB", TO_PUT);
        Due.put(x, 0, 5);
        Due.put(x, 0, 6);
        x.close(0);
        Due.open(x, "LIB", TO_PUT);
        stow(x, "D", 4, 7);
        x.close(0);
        has(x, "A", 2, 1, 2, 3);
        has(x, "B", 0);
        has(x, "C", 1, 4);
        has(x, "D", 1, 7);
    }

    private static CountKeyStore forty() {
        CountKeyStore x = toPut(2, 1, 2);
        for (int i = 0; i < 40; i++) {
            Due.fill(x, 65, i);
            Due.is("stow", x.stow(0), i + 1);
        }
        return x;
    }

    // "FULL: it would be the 41st (what was put stays to be stowed)."
    private static void stowThe41st() {
        CountKeyStore x = forty();
        Due.put(x, 0, 1);
        Due.put(x, 0, 2);
        Due.put(x, 0, 3);
        x.spoil(0, 1, 0);
        Due.is("FULL", Due.stow(x, 0, "X"), FULL);
        Due.is("the list is not written", x.record(0, 1, 0, 6), 1);
        Due.is("members", x.dataSet(0, 6), 40);
        Due.is("ten records of the list", x.record(0, 1, 10, 2), NONE);
        Due.is("the block stays", x.opened(0, 3), 1);
        Due.is("the other is written", x.record(0, 2, 0, 4), 2);
        Due.is("FULL again", Due.stow(x, 0, ""), FULL);
        Due.put(x, 0, 4);
        Due.put(x, 0, 5);
        Due.fill(x, 65, 0);
        Due.is("in place of one", x.stow(0), 40);
        x.close(0);
        Due.open(x, "LIB", TO_GET);
        Due.fill(x, 65, 0);
        Due.is("all that was put", x.member(0), 3);
        for (int i = 1; i <= 5; i++) {
            Due.is("get", x.get(0), 1);
            Due.is("OUT", x.out(0), i);
        }
        Due.is("get", x.get(0), NONE);
    }

    // The same: in place of one there is no 41st, whichever it is
    private static void stowThe41stInPlace() {
        CountKeyStore x = forty();
        for (int i : new int[] {0, 20, 39}) {
            Due.put(x, 0, i);
            Due.fill(x, 65, i);
            Due.is("stow", x.stow(0), 40);
        }
        x.close(0);
        Due.is("drop", x.drop(0, 39), 39);
        Due.open(x, "LIB", TO_PUT);
        Due.is("the 40th", Due.stow(x, 0, "X"), 40);
        Due.is("the 41st", Due.stow(x, 0, "Y"), FULL);
    }

    // "The NAME of member i of LIBRARY d, from 0 on, comes to OUT: 8; NONE: no such one."
    private static void memberAtNone() {
        CountKeyStore x = toPut(2, 1, 1);
        Due.is("of none", x.memberAt(0, 0), NONE);
        stow(x, "B", 1);
        stow(x, "A", 2);
        Due.is("0", x.memberAt(0, 0), 8);
        Due.is("A", Due.out(x).equals("A       ") ? 1 : 0, 1);
        Due.is("1", x.memberAt(0, 1), 8);
        Due.is("B", Due.out(x).equals("B       ") ? 1 : 0, 1);
        Due.allocate(x, "F", FIXED, 1, 1, 1);
        int[][] none = {{0, 2}, {0, -1}, {0, 40}, {0, MAX}, {0, MIN}, {1, 0}, {2, 0}, {-1, 0}, {10, 0}, {MAX, 0}, {MIN, 0}};
        for (int[] at : none) {
            Due.is("memberAt " + at[0] + " " + at[1], x.memberAt(at[0], at[1]), NONE);
        }
        Due.is("OUT stays", Due.out(x).equals("B       ") ? 1 : 0, 1);
    }

    // "Member i of LIBRARY d is gone from THE LIST: how many are left. NONE"
    private static void dropNone() {
        CountKeyStore x = toPut(2, 1, 1);
        stow(x, "A", 1, 1);
        stow(x, "B", 2, 2);
        x.close(0);
        Due.allocate(x, "F", FIXED, 1, 1, 1);
        int[][] none = {{0, 2}, {0, -1}, {0, 40}, {0, MAX}, {0, MIN}, {1, 0}, {2, 0}, {-1, 0}, {10, 0}, {MAX, 0}, {MIN, 0}};
        for (int[] at : none) {
            Due.is("drop " + at[0] + " " + at[1], x.drop(at[0], at[1]), NONE);
        }
        listIs(x, entry("A", 1, 1, 1), entry("B", 1, 2, 1));
    }

    // "BUSY: it is open to put." (of drop)
    private static void dropBusy() {
        CountKeyStore x = toPut(2, 1, 1);
        stow(x, "A", 1, 1);
        stow(x, "B", 2, 2);
        Due.is("to put", x.drop(0, 0), BUSY);
        Due.is("NONE goes ahead", x.drop(0, 2), NONE);
        listIs(x, entry("A", 1, 1, 1), entry("B", 1, 2, 1));
        x.close(0);
        Due.open(x, "LIB", TO_GET);
        Due.is("to get", x.drop(0, 0), 1);
        listIs(x, entry("B", 1, 2, 1));
        x.close(0);
        Due.is("closed", x.drop(0, 0), 0);
        // Another library that is open to put does not matter.
        Due.allocate(x, "L2", LIBRARY, 2, 1, 1);
        Due.open(x, "LIB", TO_PUT);
        stow(x, "A", 1);
        x.close(0);
        Due.open(x, "L2", TO_PUT);
        Due.is("drop", x.drop(0, 0), 0);
    }

    // The same: down to none, from both ends and from the midst
    private static void dropToNone() {
        CountKeyStore x = toPut(2, 1, 1);
        for (int i = 0; i < 6; i++) {
            stow(x, "" + (char) ('A' + i), i + 1, i);
        }
        x.close(0);
        int[][] due = new int[6][];
        for (int i = 0; i < 6; i++) {
            due[i] = entry("" + (char) ('A' + i), 1, i + 1, 1);
        }
        Due.is("the last", x.drop(0, 5), 5);
        listIs(x, due[0], due[1], due[2], due[3], due[4]);
        Due.is("the first", x.drop(0, 0), 4);
        listIs(x, due[1], due[2], due[3], due[4]);
        Due.is("one between", x.drop(0, 1), 3);
        listIs(x, due[1], due[3], due[4]);
        has(x, "D", 1, 3);
        Due.is("the first", x.drop(0, 0), 2);
        Due.is("the last", x.drop(0, 1), 1);
        Due.is("the only one", x.drop(0, 0), 0);
        listIs(x);
        Due.is("none is left", x.drop(0, 0), NONE);
        Due.is("the blocks are there", x.record(0, 2, 5, 200), 5);
        Due.is("until it is pressed", x.press(0), 0);
        Due.is("then they are not", x.record(0, 2, 0, 200), NONE);
    }

    // The same, of 40.
    private static void dropFrom40() {
        CountKeyStore x = forty();
        x.close(0);
        Due.is("one between of 40", x.drop(0, 10), 39);
        for (int i : new int[] {0, 9, 10, 38}) {
            Due.is("memberAt", x.memberAt(0, i), 8);
            Due.is("its name", x.out(1), i < 10 ? i : i + 1);
        }
        x = forty();
        x.close(0);
        Due.is("drop", x.drop(0, 40), NONE);
        Due.is("drop", x.drop(0, 39), 39);
        Due.is("drop", x.drop(0, 39), NONE);
        Due.is("drop", x.drop(0, 0), 38);
        Due.is("the last record has two", x.record(0, 1, 9, 4), 24);
        Due.is("memberAt", x.memberAt(0, 37), 8);
        Due.is("its name", x.out(1), 38);
        Due.is("memberAt", x.memberAt(0, 38), NONE);
        Due.is("memberAt", x.memberAt(0, 0), 8);
        Due.is("its name", x.out(1), 1);
        // Of 1 .. 38, the one at 20 is 21.
        Due.is("one between", x.drop(0, 20), 37);
        for (int i : new int[] {0, 19, 20, 36}) {
            Due.is("memberAt", x.memberAt(0, i), 8);
            Due.is("its name", x.out(1), i < 20 ? i + 1 : i + 2);
        }
        Due.is("its list too", x.record(0, 1, 5, 201), 22);
    }

    // "NONE: no such one" (of press)
    private static void pressNone() {
        CountKeyStore x = with(2, 1, 1);
        Due.allocate(x, "F", FIXED, 1, 1, 1);
        Due.allocate(x, "D", DIRECT, 1, 1, 1);
        for (int d : new int[] {-1, 1, 2, 3, 9, 10, MIN, MAX}) {
            Due.is("press " + d, x.press(d), NONE);
        }
        Due.is("press(0)", x.press(0), 0);
        Due.fill(x, "LIB");
        x.scratch();
        Due.is("it is gone", x.press(0), NONE);
    }

    // "BUSY: it is open." (of press)
    private static void pressBusy() {
        CountKeyStore x = toPut(2, 1, 1);
        stow(x, "A", 1, 1);
        stow(x, "A", 1, 2);
        Due.is("to put", x.press(0), BUSY);
        x.close(0);
        Due.open(x, "LIB", TO_GET);
        Due.is("to get", x.press(0), BUSY);
        Due.is("nothing moved", x.record(0, 2, 0, 200), 1);
        x.close(0);
        Due.is("closed", x.press(0), 1);
        Due.is("it moved", x.record(0, 2, 0, 200), 2);
    }

    // "how many BLOCKS there are": none
    private static void pressOfNothing() {
        CountKeyStore x = toPut(3, 1, 1);
        Due.put(x, 0, 1);
        Due.put(x, 0, 2);
        x.close(0);
        Due.is("two are there, and no member", x.record(0, 2, 1, 200), 2);
        Due.is("press", x.press(0), 0);
        Due.is("nothing is left", x.record(0, 2, 0, 4), NONE);
        Due.is("again", x.press(0), 0);
    }

    // "the members' BLOCKS, in the order in which they lie, are written one behind the other from TRACK 1 on"
    private static void pressInTheirOrder() {
        CountKeyStore x = toPut(2, 1, 2);
        stow(x, "C", 1, 1, 2, 3);
        stow(x, "B", 2, 4);
        stow(x, "A", 3, 5, 6, 7);
        stow(x, "B", 3, 8, 9);
        x.close(0);
        Due.is("press", x.press(0), 5);
        int[][] due = {{1, 2}, {3}, {5, 6}, {7}, {8, 9}};
        for (int k = 0; k < 5; k++) {
            Due.holds("block " + k, Due.dataIs(x, 2, k, due[k]));
            Due.is("its number", x.record(0, 2, k, 2), k + 1);
        }
        Due.is("no more", x.record(0, 2, 5, 2), NONE);
        listIs(x, entry("A", 1, 3, 2), entry("B", 1, 5, 1), entry("C", 1, 1, 2));
        has(x, "A", 2, 5, 6, 7);
        has(x, "B", 1, 8, 9);
        has(x, "C", 2, 1, 2, 3);
        Due.is("press again", x.press(0), 5);
        listIs(x, entry("A", 1, 3, 2), entry("B", 1, 5, 1), entry("C", 1, 1, 2));
    }

    // "nothing else is left."
    private static void pressNothingElse() {
        CountKeyStore x = toPut(4, 200, 6);
        for (int m = 0; m < 3; m++) {
            for (int i = 0; i < 6; i++) {
                Due.put(x, 0, Due.row(200, m));
            }
            Due.is("stow", Due.stow(x, 0, "M" + m), m + 1);
        }
        x.close(0);
        Due.is("three tracks have one", x.record(0, 4, 0, 200), 2);
        x.drop(0, 0);
        x.drop(0, 0);
        Due.is("press", x.press(0), 1);
        Due.is("the last is the first", x.record(0, 2, 0, 200), 2);
        Due.is("its head", x.record(0, 2, 0, 1), 2);
        Due.is("alone", x.record(0, 2, 1, 4), NONE);
        Due.is("none on the second", x.record(0, 3, 0, 4), NONE);
        Due.is("none on the third", x.record(0, 4, 0, 4), NONE);
        listIs(x, entry("M2", 1, 1, 1));
    }

    // "(with their SPOILED marks)"
    private static void pressMarks() {
        CountKeyStore x = toPut(2, 1, 1);
        stow(x, "A", 1, 1, 2);
        stow(x, "B", 2, 3, 4, 5);
        stow(x, "C", 3, 6);
        x.close(0);
        // 1 is spoiled and goes; 4 and 6 are spoiled and stay.
        x.spoil(0, 2, 0);
        x.spoil(0, 2, 3);
        x.spoil(0, 2, 5);
        x.drop(0, 0);
        Due.is("press", x.press(0), 4);
        int[] marks = {0, 1, 0, 1};
        for (int k = 0; k < 4; k++) {
            Due.is("block " + k, x.record(0, 2, k, 200), 3 + k);
            Due.is("its mark", x.record(0, 2, k, 6), marks[k]);
        }
        Due.open(x, "LIB", TO_GET);
        Due.member(x, 0, "B");
        Due.is("get", x.get(0), 1);
        Due.is("get", x.get(0), CHECK);
        Due.is("get", x.get(0), 1);
        Due.is("OUT", x.out(0), 5);
        Due.is("get", x.get(0), NONE);
        x.close(0);
        Due.is("press again", x.press(0), 4);
        for (int k = 0; k < 4; k++) {
            Due.is("its mark", x.record(0, 2, k, 6), marks[k]);
        }
    }

    // The same, over TRACKS: a BLOCK for which there is no room on its TRACK goes on the next.
    private static void pressOverTracks() {
        CountKeyStore x = toPut(5, 200, 6);
        // Blocks of 200, 800, 1200, 400, 600, 600: tracks 1, 1, 2, 3, 3, 4.
        int[] records = {1, 4, 6, 2, 3, 3};
        for (int m = 0; m < 6; m++) {
            for (int i = 0; i < records[m]; i++) {
                Due.is("put", Due.put(x, 0, Due.row(200, m)), 1);
            }
            Due.stow(x, 0, "M" + m);
        }
        listIs(x, entry("M0", 1, 1, 1), entry("M1", 1, 2, 1), entry("M2", 2, 1, 1), entry("M3", 3, 1, 1), entry("M4", 3, 2, 1),
                entry("M5", 4, 1, 1));
        x.close(0);
        x.spoil(0, 4, 0);
        x.drop(0, 2);
        x.drop(0, 1);
        // 200, 400 and 600 end at 1320; the other 600 does not fit behind them.
        Due.is("press", x.press(0), 4);
        listIs(x, entry("M0", 1, 1, 1), entry("M3", 1, 2, 1), entry("M4", 1, 3, 1), entry("M5", 2, 1, 1));
        Due.is("M3's mark went with it", x.record(0, 2, 1, 6), 1);
        Due.is("M4 is behind it", x.record(0, 2, 2, 5), 690);
        Due.is("M5 is on the next", x.record(0, 3, 0, 200), 5);
        Due.is("M5's head", x.record(0, 3, 0, 1), 3);
        Due.is("alone", x.record(0, 3, 1, 4), NONE);
        Due.is("nothing on the third", x.record(0, 4, 0, 4), NONE);
        Due.is("nothing on the fourth", x.record(0, 5, 0, 4), NONE);
    }

    // Then BLOCKS come behind the last that is there.
    private static void pressThenPut() {
        CountKeyStore x = toPut(2, 200, 6);
        for (int i = 0; i < 7; i++) {
            Due.is("put", Due.put(x, 0, Due.row(200, i)), 1);
        }
        Due.is("stow", Due.stow(x, 0, "A"), 1);
        Due.is("no room", Due.put(x, 0, Due.row(200, 7)), FULL);
        Due.is("stow in place", Due.stow(x, 0, "A"), 1);
        Due.is("still none", Due.put(x, 0, Due.row(200, 7)), FULL);
        x.close(0);
        Due.is("press", x.press(0), 0);
        Due.open(x, "LIB", TO_PUT);
        for (int i = 0; i < 7; i++) {
            Due.is("put", Due.put(x, 0, Due.row(200, 10 + i)), 1);
        }
        Due.is("stow", Due.stow(x, 0, "B"), 2);
        Due.is("from the first on", x.record(0, 2, 0, 200), 10);
        listIs(x, entry("A", 0, 0, 0), entry("B", 1, 1, 2));
    }
}
