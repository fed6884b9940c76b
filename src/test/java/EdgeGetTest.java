/**
 * The boundary cases of get() and rewrite(): promises 22 and 23; above each test stands the sentence
 * that it asks for.
 */
public final class EdgeGetTest extends Rig {
    public static void main(String[] args) {
        behindTheLast();
        ofAnEmptySet();
        getState();
        ofALibraryWithoutAMember();
        overTracks();
        readersOfTheirOwn();
        checkOfABlock();
        checkOfTheFirst();
        checkOfTheLast();
        checkOfTwo();
        checkOfVariable();
        checkOfSpannedFirst();
        checkOfSpannedBetween();
        checkOfSpannedLast();
        checkOfSpannedInTheMidst();
        checkOfSpannedAll();
        piecesAtTheEnd();
        piecesAheadOfACheck();
        underWay();
        rewriteState();
        rewriteBehindNone();
        rewriteBehindCheck();
        rewriteOfAnotherHandle();
        rewriteLength();
        rewriteTwice();
        rewriteFirstAndLast();
        rewriteOnTheNextTrack();
        rewriteOfNoBytes();
        rewriteSpanned();
        rewriteMakesWhole();
        rewriteThenGet();
        Due.settle();
    }

    /** A FIXED set of records 1 .. n of one byte, b of them a block, on so many tracks. */
    private static CountKeyStore numbers(int n, int b) {
        CountKeyStore x = new CountKeyStore();
        Due.allocate(x, "A", FIXED, 2, 1, b);
        Due.open(x, "A", TO_PUT);
        for (int i = 1; i <= n; i++) {
            Due.put(x, 0, i);
        }
        x.close(0);
        return x;
    }

    /** A SPANNED set, b 8 (three bytes a piece), of records with so many bytes, from 10, 20, .. on. */
    private static CountKeyStore pieces(int... lengths) {
        CountKeyStore x = new CountKeyStore();
        Due.allocate(x, "A", SPANNED, 2, 0, 8);
        Due.open(x, "A", TO_PUT);
        for (int i = 0; i < lengths.length; i++) {
            Due.put(x, 0, Due.row(lengths[i], 10 * i + 10));
        }
        x.close(0);
        return x;
    }

    private static void got(CountKeyStore x, int... bytes) {
        Due.is("get", x.get(0), bytes.length);
        Due.holds("OUT", Due.outIs(x, bytes));
    }

    private static void refused(CountKeyStore x, int answer, int... bytes) {
        Due.is("get", x.get(0), answer);
        Due.holds("OUT stays", Due.outIs(x, bytes));
    }

    // "NONE behind the last one (OUT stays)."
    private static void behindTheLast() {
        for (int n = 3; n <= 4; n++) {
            CountKeyStore x = numbers(n, 2);
            Due.open(x, "A", TO_GET);
            for (int i = 1; i <= n; i++) {
                got(x, i);
            }
            for (int i = 0; i < 3; i++) {
                refused(x, NONE, n);
            }
            Due.is("records", x.opened(0, 2), n);
        }
    }

    // The same, where there is none at all.
    private static void ofAnEmptySet() {
        for (int kind : new int[] {FIXED, VARIABLE, SPANNED}) {
            CountKeyStore x = new CountKeyStore();
            Due.allocate(x, "A", kind, 3, kind == FIXED ? 1 : 0, 8);
            Due.open(x, "A", TO_GET);
            refused(x, NONE);
            x.close(0);
            Due.open(x, "A", TO_CHANGE);
            refused(x, NONE);
            x.close(0);
            Due.open(x, "A", TO_PUT);
            x.close(0);
            Due.open(x, "A", TO_GET);
            refused(x, NONE);
        }
    }

    // "STATE: there is no such h, it is opened to put, a DIRECT one"
    private static void getState() {
        CountKeyStore x = numbers(2, 1);
        for (int h : new int[] {-1, 0, 3, 4, MIN, MAX}) {
            Due.is("get " + h, x.get(h), STATE);
        }
        Due.open(x, "A", TO_GET);
        got(x, 1);
        Due.is("another h", x.get(1), STATE);
        x.close(0);
        refused(x, STATE, 1);
        Due.open(x, "A", TO_PUT);
        refused(x, STATE, 1);
        x.close(0);
        Due.allocate(x, "D", DIRECT, 1, 1, 1);
        for (int mode = TO_GET; mode <= TO_CHANGE; mode += TO_CHANGE) {
            Due.open(x, "D", mode);
            refused(x, STATE, 1);
            x.close(0);
        }
    }

    // "a LIBRARY without a member"
    private static void ofALibraryWithoutAMember() {
        CountKeyStore x = new CountKeyStore();
        Due.allocate(x, "A", LIBRARY, 2, 1, 1);
        Due.open(x, "A", TO_PUT);
        Due.put(x, 0, 5);
        Due.stow(x, 0, "M");
        Due.stow(x, 0, "EMPTY");
        refused(x, STATE);
        x.close(0);
        Due.open(x, "A", TO_GET);
        refused(x, STATE);
        Due.is("none such", Due.member(x, 0, "X"), NONE);
        refused(x, STATE);
        Due.is("without blocks", Due.member(x, 0, "EMPTY"), 0);
        refused(x, NONE);
        Due.is("with one", Due.member(x, 0, "M"), 1);
        got(x, 5);
        refused(x, NONE, 5);
        x.close(0);
        Due.open(x, "A", TO_GET);
        refused(x, STATE, 5);
    }

    // "The next record comes to OUT" (from TRACK to TRACK, over one that is empty at the end)
    private static void overTracks() {
        CountKeyStore x = new CountKeyStore();
        Due.allocate(x, "A", VARIABLE, 3, 0, 1200);
        Due.open(x, "A", TO_PUT);
        Due.put(x, 0, Due.row(1196, 1));
        Due.put(x, 0, Due.row(1000, 2));
        x.close(0);
        Due.is("on the second", x.record(0, 2, 0, 4), 1004);
        Due.open(x, "A", TO_GET);
        got(x, Due.row(1196, 1));
        Due.is("get", x.get(0), 1000);
        Due.is("OUT", x.out(0), 2);
        Due.is("no more of the one before", x.out(1000), NONE);
        Due.is("behind the last", x.get(0), NONE);
        Due.is("OUT stays", x.count(4), 1000);
    }

    // The same: each that is open has its own next one; OUT is one for all.
    private static void readersOfTheirOwn() {
        CountKeyStore x = numbers(3, 2);
        Due.open(x, "A", TO_GET);
        Due.open(x, "A", TO_GET);
        got(x, 1);
        got(x, 2);
        Due.is("get(1)", x.get(1), 1);
        Due.holds("OUT", Due.outIs(x, 1));
        got(x, 3);
        refused(x, NONE, 3);
        Due.is("get(1)", x.get(1), 1);
        Due.holds("OUT", Due.outIs(x, 2));
    }

    // "CHECK: the next BLOCK is SPOILED ...: what is in that BLOCK is passed over ..., OUT stays"
    private static void checkOfABlock() {
        CountKeyStore x = numbers(6, 2);
        Due.open(x, "A", TO_GET);
        got(x, 1);
        x.spoil(0, 1, 1);
        got(x, 2);
        refused(x, CHECK, 2);
        Due.is("records", x.opened(0, 2), 2);
        got(x, 5);
        got(x, 6);
        refused(x, NONE, 6);
        Due.is("it stays spoiled", x.record(0, 1, 1, 6), 1);
    }

    // The same, of the first BLOCK.
    private static void checkOfTheFirst() {
        CountKeyStore x = numbers(3, 2);
        x.spoil(0, 1, 0);
        Due.open(x, "A", TO_GET);
        refused(x, CHECK);
        got(x, 3);
        refused(x, NONE, 3);
    }

    // The same, of the last BLOCK.
    private static void checkOfTheLast() {
        CountKeyStore x = numbers(3, 2);
        x.spoil(0, 1, 1);
        Due.open(x, "A", TO_GET);
        got(x, 1);
        got(x, 2);
        refused(x, CHECK, 2);
        refused(x, NONE, 2);
        refused(x, NONE, 2);
    }

    // The same: one CHECK for each BLOCK.
    private static void checkOfTwo() {
        CountKeyStore x = numbers(7, 2);
        x.spoil(0, 1, 1);
        x.spoil(0, 1, 2);
        Due.open(x, "A", TO_GET);
        got(x, 1);
        got(x, 2);
        refused(x, CHECK, 2);
        refused(x, CHECK, 2);
        got(x, 7);
        refused(x, NONE, 7);
        // On the next track too.
        x = new CountKeyStore();
        Due.allocate(x, "A", FIXED, 2, 200, 6);
        Due.open(x, "A", TO_PUT);
        for (int i = 0; i < 12; i++) {
            Due.put(x, 0, Due.row(200, i));
        }
        x.close(0);
        x.spoil(0, 2, 0);
        Due.open(x, "A", TO_GET);
        for (int i = 0; i < 6; i++) {
            got(x, Due.row(200, i));
        }
        Due.is("get", x.get(0), CHECK);
        Due.is("get", x.get(0), NONE);
    }

    // The same, of a VARIABLE one.
    private static void checkOfVariable() {
        CountKeyStore x = new CountKeyStore();
        Due.allocate(x, "A", VARIABLE, 1, 0, 10);
        Due.open(x, "A", TO_PUT);
        Due.put(x, 0, 1, 2, 3, 4);
        Due.put(x, 0);
        Due.put(x, 0, 5, 6, 7, 8, 9, 10);
        Due.put(x, 0, 11);
        x.close(0);
        x.spoil(0, 1, 1);
        Due.open(x, "A", TO_GET);
        got(x, 1, 2, 3, 4);
        got(x);
        refused(x, CHECK);
        got(x, 11);
        x.spoil(0, 1, 0);
        x.close(0);
        Due.open(x, "A", TO_GET);
        refused(x, CHECK, 11);
        refused(x, CHECK, 11);
        got(x, 11);
    }

    // "(of a SPANNED record: one that has a piece of it)" and "pieces without their first one are passed over as well."
    private static void checkOfSpannedFirst() {
        // Of 9 bytes in blocks 0 .. 2, of 2 in block 3.
        CountKeyStore x = pieces(9, 2);
        x.spoil(0, 1, 0);
        Due.open(x, "A", TO_GET);
        refused(x, CHECK);
        got(x, 20, 21);
        refused(x, NONE, 20, 21);
    }

    // "(also what had begun)"
    private static void checkOfSpannedBetween() {
        CountKeyStore x = pieces(1, 9, 2);
        x.spoil(0, 1, 2);
        Due.open(x, "A", TO_GET);
        got(x, 10);
        refused(x, CHECK, 10);
        got(x, 30, 31);
        Due.is("records", x.opened(0, 2), 2);
    }

    // The same, of the BLOCK with the last piece.
    private static void checkOfSpannedLast() {
        CountKeyStore x = pieces(1, 9, 2);
        x.spoil(0, 1, 3);
        Due.open(x, "A", TO_GET);
        got(x, 10);
        refused(x, CHECK, 10);
        got(x, 30, 31);
        refused(x, NONE, 30, 31);
    }

    // The same: a BLOCK with a last piece, a whole record and a first piece.
    private static void checkOfSpannedInTheMidst() {
        CountKeyStore x = new CountKeyStore();
        Due.allocate(x, "A", SPANNED, 1, 0, 20);
        Due.open(x, "A", TO_PUT);
        // 15 fill the first block; 17 .. : 1 byte of it in the second, then one whole, then a first piece.
        Due.put(x, 0, Due.row(16, 100));
        Due.put(x, 0, 7);
        Due.put(x, 0, Due.row(12, 50));
        Due.put(x, 0, 8);
        x.close(0);
        Due.holds("block 1", Due.dataIs(x, 1, 1, 0, 20, 0, 4, 2, 115, 0, 4, 0, 7, 0, 10, 1, 50, 51, 52, 53, 54, 55, 56));
        Due.open(x, "A", TO_GET);
        got(x, Due.row(16, 100));
        got(x, 7);
        got(x, Due.row(12, 50));
        got(x, 8);
        x.close(0);
        x.spoil(0, 1, 1);
        Due.open(x, "A", TO_GET);
        refused(x, CHECK, 8);
        Due.is("only the last is left", x.get(0), 1);
        Due.holds("OUT", Due.outIs(x, 8));
        refused(x, NONE, 8);
        Due.is("one record", x.opened(0, 2), 1);
    }

    // The same: each BLOCK that is SPOILED is a CHECK.
    private static void checkOfSpannedAll() {
        CountKeyStore x = pieces(9, 2);
        for (int k = 0; k < 4; k++) {
            x.spoil(0, 1, k);
        }
        Due.open(x, "A", TO_GET);
        for (int k = 0; k < 4; k++) {
            refused(x, CHECK);
        }
        refused(x, NONE);
        Due.is("no record", x.opened(0, 2), 0);
    }

    // "pieces without their first one are passed over as well." (behind them there is nothing)
    private static void piecesAtTheEnd() {
        CountKeyStore x = pieces(1, 9);
        x.spoil(0, 1, 1);
        Due.open(x, "A", TO_GET);
        got(x, 10);
        refused(x, CHECK, 10);
        refused(x, NONE, 10);
        refused(x, NONE, 10);
    }

    // The same: behind them there is a BLOCK that is SPOILED.
    private static void piecesAheadOfACheck() {
        CountKeyStore x = pieces(9, 2, 3);
        x.spoil(0, 1, 0);
        x.spoil(0, 1, 3);
        Due.open(x, "A", TO_GET);
        refused(x, CHECK);
        refused(x, CHECK);
        got(x, 30, 31, 32);
    }

    // "the next BLOCK is SPOILED": not the one of which a record was got already
    private static void underWay() {
        CountKeyStore x = numbers(4, 3);
        Due.open(x, "A", TO_GET);
        got(x, 1);
        x.spoil(0, 1, 0);
        got(x, 2);
        got(x, 3);
        x.spoil(0, 1, 1);
        refused(x, CHECK, 3);
        refused(x, NONE, 3);
    }

    // "STATE: there is no such h, it was not opened to change, or get() told none last (since it was opened)"
    private static void rewriteState() {
        CountKeyStore x = numbers(3, 2);
        for (int h : new int[] {-1, 0, 3, 4, MIN, MAX}) {
            Due.fill(x, 9);
            Due.is("rewrite " + h, x.rewrite(h), STATE);
        }
        Due.open(x, "A", TO_GET);
        got(x, 1);
        Due.fill(x, 9);
        Due.is("to get", x.rewrite(0), STATE);
        x.close(0);
        Due.open(x, "A", TO_CHANGE);
        Due.fill(x, 9);
        Due.is("nothing was got", x.rewrite(0), STATE);
        got(x, 1);
        x.close(0);
        Due.open(x, "A", TO_CHANGE);
        Due.fill(x, 9);
        Due.is("since it was opened", x.rewrite(0), STATE);
        Due.fill(x, 9, 9);
        Due.is("ahead of LENGTH", x.rewrite(0), STATE);
        Due.holds("nothing changed", Due.dataIs(x, 1, 0, 1, 2));
        x.close(0);
        Due.open(x, "A", TO_PUT);
        Due.put(x, 0, 5);
        Due.fill(x, 9);
        Due.is("to put", x.rewrite(0), STATE);
        x.close(0);
        Due.allocate(x, "D", DIRECT, 1, 1, 1);
        Due.open(x, "D", TO_CHANGE);
        Due.fill(x, 1, 1);
        x.putKeyed(0);
        Due.fill(x, 1);
        x.getKeyed(0);
        Due.fill(x, 9);
        Due.is("a DIRECT one", x.rewrite(0), STATE);
        Due.is("its data stay", x.record(0, 3, 0, 200), 1);
        Due.allocate(x, "L", LIBRARY, 2, 1, 1);
        Due.open(x, "L", TO_PUT);
        Due.put(x, 1, 1);
        Due.stow(x, 1, "M");
        x.close(1);
        Due.open(x, "L", TO_GET);
        Due.member(x, 1, "M");
        x.get(1);
        Due.fill(x, 9);
        Due.is("a LIBRARY", x.rewrite(1), STATE);
    }

    // "get() told none last": it answered NONE
    private static void rewriteBehindNone() {
        CountKeyStore x = numbers(2, 2);
        Due.open(x, "A", TO_CHANGE);
        got(x, 1);
        got(x, 2);
        refused(x, NONE, 2);
        Due.fill(x, 9);
        Due.is("rewrite", x.rewrite(0), STATE);
        Due.holds("nothing changed", Due.dataIs(x, 1, 0, 1, 2));
    }

    // The same: it answered CHECK
    private static void rewriteBehindCheck() {
        CountKeyStore x = numbers(5, 2);
        x.spoil(0, 1, 1);
        Due.open(x, "A", TO_CHANGE);
        got(x, 1);
        got(x, 2);
        refused(x, CHECK, 2);
        Due.fill(x, 9);
        Due.is("rewrite", x.rewrite(0), STATE);
        Due.holds("nothing changed", Due.dataIs(x, 1, 0, 1, 2));
        Due.is("it is spoiled still", x.record(0, 1, 1, 6), 1);
        got(x, 5);
        Due.fill(x, 9);
        Due.is("rewrite", x.rewrite(0), 1);
        Due.holds("the last", Due.dataIs(x, 1, 2, 9));
    }

    // "the record that get() told latest": of that h
    private static void rewriteOfAnotherHandle() {
        CountKeyStore x = numbers(2, 2);
        Due.allocate(x, "B", FIXED, 1, 1, 2);
        Due.open(x, "B", TO_PUT);
        Due.put(x, 0, 7);
        x.close(0);
        Due.open(x, "A", TO_CHANGE);
        Due.open(x, "B", TO_CHANGE);
        got(x, 1);
        Due.fill(x, 9);
        Due.is("of the other nothing was got", x.rewrite(1), STATE);
        Due.is("get(1)", x.get(1), 1);
        Due.fill(x, 9);
        Due.is("rewrite(0)", x.rewrite(0), 1);
        Due.holds("A", Due.dataIs(x, 1, 0, 9, 2));
        Due.holds("B stays", Due.dataIs(x, 3, 0, 7));
    }

    // "LENGTH: not as long."
    private static void rewriteLength() {
        CountKeyStore x = new CountKeyStore();
        Due.allocate(x, "A", VARIABLE, 1, 0, 30);
        Due.open(x, "A", TO_PUT);
        Due.put(x, 0, 1, 2, 3);
        Due.put(x, 0);
        x.close(0);
        Due.open(x, "A", TO_CHANGE);
        x.get(0);
        x.spoil(0, 1, 0);
        for (int n : new int[] {0, 1, 2, 4, 30}) {
            Due.fill(x, Due.row(n, 50));
            Due.is("of " + n, x.rewrite(0), LENGTH);
        }
        Due.holds("nothing changed", Due.dataIs(x, 1, 0, 0, 9, 0, 5, 1, 2, 3, 0, 2));
        Due.is("it stays spoiled", x.record(0, 1, 0, 6), 1);
        Due.fill(x, 50, 51, 52);
        Due.is("of 3", x.rewrite(0), 1);
        Due.holds("it changed", Due.dataIs(x, 1, 0, 0, 9, 0, 5, 50, 51, 52, 0, 2));
        x.get(0);
        Due.fill(x, 9);
        Due.is("of one with none", x.rewrite(0), LENGTH);
    }

    // "the record that get() told latest": as often as one likes
    private static void rewriteTwice() {
        CountKeyStore x = numbers(3, 3);
        Due.open(x, "A", TO_CHANGE);
        got(x, 1);
        got(x, 2);
        for (int i = 0; i < 3; i++) {
            Due.fill(x, 90 + i);
            Due.is("rewrite", x.rewrite(0), 1);
            Due.holds("the second", Due.dataIs(x, 1, 0, 1, 90 + i, 3));
        }
        Due.holds("OUT stays", Due.outIs(x, 2));
        Due.is("it is no record put or got", x.opened(0, 2), 2);
        got(x, 3);
    }

    // The same, at both ends of a BLOCK and of the set.
    private static void rewriteFirstAndLast() {
        CountKeyStore x = numbers(5, 2);
        Due.open(x, "A", TO_CHANGE);
        for (int i = 1; i <= 5; i++) {
            got(x, i);
            Due.fill(x, 100 + i);
            Due.is("rewrite", x.rewrite(0), 1);
        }
        Due.holds("block 0", Due.dataIs(x, 1, 0, 101, 102));
        Due.holds("block 1", Due.dataIs(x, 1, 1, 103, 104));
        Due.holds("block 2", Due.dataIs(x, 1, 2, 105));
        Due.is("no more", x.record(0, 1, 3, 4), NONE);
    }

    // The same, of a record on the second TRACK.
    private static void rewriteOnTheNextTrack() {
        CountKeyStore x = new CountKeyStore();
        Due.allocate(x, "A", FIXED, 2, 200, 6);
        Due.open(x, "A", TO_PUT);
        for (int i = 0; i < 9; i++) {
            Due.put(x, 0, Due.row(200, i));
        }
        x.close(0);
        Due.open(x, "A", TO_CHANGE);
        for (int i = 0; i < 8; i++) {
            Due.is("get", x.get(0), 200);
        }
        Due.fill(x, Due.row(200, 90));
        Due.is("rewrite", x.rewrite(0), 1);
        int[] due = {6, 90, 8};
        for (int i = 0; i < 3; i++) {
            Due.is("record " + i, x.record(0, 2, 0, 200 + 200 * i), due[i]);
            Due.is("its last byte", x.record(0, 2, 0, 399 + 200 * i), due[i] + 199 & 255);
            Due.is("that of the first track", x.record(0, 1, 0, 200 + 200 * i), i);
        }
        Due.is("get", x.get(0), 200);
        Due.is("OUT", x.out(0), 8);
    }

    // The same, of a record without bytes.
    private static void rewriteOfNoBytes() {
        for (int kind = VARIABLE; kind <= SPANNED; kind++) {
            CountKeyStore x = new CountKeyStore();
            Due.allocate(x, "A", kind, 1, 0, 30);
            Due.open(x, "A", TO_PUT);
            Due.put(x, 0);
            Due.put(x, 0, 1);
            x.close(0);
            Due.open(x, "A", TO_CHANGE);
            Due.is("get", x.get(0), 0);
            Due.is("rewrite", x.rewrite(0), 1);
            Due.fill(x, 1);
            Due.is("of one", x.rewrite(0), LENGTH);
            got(x, 1);
        }
    }

    // The same, of a SPANNED record in several BLOCKS and on two TRACKS.
    private static void rewriteSpanned() {
        // 38 blocks fill the first track; the record has the last three of it and two of the next.
        CountKeyStore x = pieces(105, 13);
        Due.is("its first", x.record(0, 1, 35, 204), 1);
        Due.is("its last", x.record(0, 2, 1, 204), 2);
        Due.open(x, "A", TO_CHANGE);
        Due.is("get", x.get(0), 105);
        Due.is("get", x.get(0), 13);
        Due.fill(x, Due.row(13, 120));
        Due.is("rewrite", x.rewrite(0), 1);
        int[] tracks = {1, 1, 1, 2, 2};
        int[] blocks = {35, 36, 37, 0, 1};
        int[] types = {1, 3, 3, 3, 2};
        for (int i = 0; i < 5; i++) {
            int n = i < 4 ? 3 : 1;
            int[] due = Due.join(new int[] {0, 5 + n, 0, 3 + n, types[i]}, Due.row(n, 120 + 3 * i));
            Due.holds("block " + i, Due.dataIs(x, tracks[i], blocks[i], due));
        }
        Due.is("the one ahead stays", x.record(0, 1, 34, 205), 10 + 102);
        Due.fill(x, Due.row(12, 0));
        Due.is("one less", x.rewrite(0), LENGTH);
        Due.fill(x, Due.row(14, 0));
        Due.is("one more", x.rewrite(0), LENGTH);
    }

    // "what writes its DATA makes it whole again."
    private static void rewriteMakesWhole() {
        CountKeyStore x = pieces(1, 9, 2);
        Due.open(x, "A", TO_CHANGE);
        x.get(0);
        Due.is("get", x.get(0), 9);
        for (int k = 0; k < 5; k++) {
            x.spoil(0, 1, k);
        }
        Due.fill(x, Due.row(9, 90));
        Due.is("rewrite", x.rewrite(0), 1);
        int[] due = {1, 0, 0, 0, 1};
        for (int k = 0; k < 5; k++) {
            Due.is("mark of block " + k, x.record(0, 1, k, 6), due[k]);
        }
        refused(x, CHECK, Due.row(9, 20));
    }

    // get() goes on behind it, and tells what was written.
    private static void rewriteThenGet() {
        CountKeyStore x = pieces(9, 2);
        Due.open(x, "A", TO_CHANGE);
        Due.is("get", x.get(0), 9);
        Due.fill(x, Due.row(9, 70));
        Due.is("rewrite", x.rewrite(0), 1);
        got(x, 20, 21);
        x.close(0);
        Due.open(x, "A", TO_GET);
        got(x, Due.row(9, 70));
        got(x, 20, 21);
        refused(x, NONE, 20, 21);
    }
}
