/**
 * The boundary cases of what is open and of records that are PUT: promises 19 to 21 and 31 and the
 * BLOCKS of terms III; above each test stands the sentence that it asks for.
 */
public final class EdgePutTest extends Rig {
    public static void main(String[] args) {
        openRange();
        openNone();
        openState();
        openBusy();
        openFull();
        openAnswersInTheirOrder();
        openToPutHasNoRecords();
        openRefusedKeepsRecords();
        closeNone();
        closeWritesTheBlock();
        closeGivesUpOfALibrary();
        putNone();
        putState();
        putLengthFixed();
        putLengthVariable();
        putLengthSpanned();
        fixedBlockOfB();
        fixedBlockOfOne();
        variableJustFits();
        variableEmptyRecords();
        spannedFourBytesFree();
        spannedThreeBytesFree();
        spannedWithoutBytes();
        spannedOverSeveral();
        spannedToTheEnd();
        spannedLongest();
        blockOnItsTrack();
        blockOnTheNextTrack();
        numbersOnATrack();
        blocksInExtents();
        fixedFull();
        variableFullByWhatIsLeft();
        variableFullByWhatIsWritten();
        variableJustFitsTheLast();
        spannedJustFitsTheLast();
        spannedFullByWhatIsLeft();
        spannedFullByWhatIsWritten();
        fullChangesNothing();
        extendMakesRoom();
        libraryBehindTheLast();
        openedNone();
        openedCounts();
        openedBytes();
        Due.settle();
    }

    private static CountKeyStore with(int kind, int tracks, int a, int b) {
        CountKeyStore x = new CountKeyStore();
        Due.is("allocate", Due.allocate(x, "A", kind, tracks, a, b), 0);
        return x;
    }

    private static CountKeyStore toPut(int kind, int tracks, int a, int b) {
        CountKeyStore x = with(kind, tracks, a, b);
        Due.is("open", Due.open(x, "A", TO_PUT), 0);
        return x;
    }

    // "to get (mode 0), to put (1; ...), to change (2; ...): ... RANGE"
    private static void openRange() {
        CountKeyStore x = with(FIXED, 1, 1, 1);
        for (int mode : new int[] {-1, 3, MIN, MAX}) {
            Due.is("mode " + mode, Due.open(x, "A", mode), RANGE);
            Due.is("ahead of NONE", Due.open(x, "X", mode), RANGE);
        }
        Due.is("count(2)", x.count(2), 0);
        for (int mode = 0; mode <= 2; mode++) {
            Due.is("mode " + mode, Due.open(x, "A", mode), 0);
            Due.is("opened(0, 1)", x.opened(0, 1), mode);
            x.close(0);
        }
    }

    // "NONE" (of open)
    private static void openNone() {
        CountKeyStore x = new CountKeyStore();
        Due.is("of no sets", Due.open(x, "", TO_GET), NONE);
        Due.allocate(x, "AB", FIXED, 1, 1, 1);
        Due.is("A", Due.open(x, "A", TO_GET), NONE);
        Due.is("ABC", Due.open(x, "ABC", TO_GET), NONE);
        Due.is("AB and 32s, and more", Due.open(x, "AB      XYZ", TO_GET), 0);
    }

    // "STATE: LIBRARY with 2, DIRECT with 1"
    private static void openState() {
        for (int kind = FIXED; kind <= LIBRARY; kind++) {
            CountKeyStore x = with(kind, 2, kind == VARIABLE || kind == SPANNED ? 0 : 1, 8);
            for (int mode = TO_GET; mode <= TO_CHANGE; mode++) {
                boolean bad = kind == LIBRARY && mode == TO_CHANGE || kind == DIRECT && mode == TO_PUT;
                Due.is("kind " + kind + " mode " + mode, Due.open(x, "A", mode), bad ? STATE : 0);
                Due.is("count(2)", x.count(2), bad ? 0 : 1);
                x.close(0);
            }
        }
    }

    // "BUSY: it is open and one of both modes is not 0"
    private static void openBusy() {
        for (int first = TO_GET; first <= TO_CHANGE; first++) {
            for (int then = TO_GET; then <= TO_CHANGE; then++) {
                CountKeyStore x = with(FIXED, 1, 1, 1);
                Due.allocate(x, "B", FIXED, 1, 1, 1);
                Due.is("B, which does not matter", Due.open(x, "B", TO_CHANGE), 0);
                Due.is("first", Due.open(x, "A", first), 1);
                boolean both = first == TO_GET && then == TO_GET;
                Due.is(first + " and " + then, Due.open(x, "A", then), both ? 2 : BUSY);
                x.close(1);
                x.close(2);
                Due.is("closed", Due.open(x, "A", then), 1);
            }
        }
        CountKeyStore x = with(FIXED, 1, 1, 1);
        Due.open(x, "A", TO_GET);
        Due.open(x, "A", TO_GET);
        x.close(0);
        Due.is("open once more", Due.open(x, "A", TO_PUT), BUSY);
    }

    // "a number 0 .. 3, the lowest that is free. ... FULL."
    private static void openFull() {
        CountKeyStore x = with(FIXED, 1, 1, 1);
        Due.allocate(x, "B", FIXED, 1, 1, 1);
        for (int h = 0; h < 4; h++) {
            Due.is("open", Due.open(x, "A", TO_GET), h);
        }
        Due.is("the fifth", Due.open(x, "A", TO_GET), FULL);
        Due.is("of another", Due.open(x, "B", TO_PUT), FULL);
        Due.is("count(2)", x.count(2), 4);
        x.close(2);
        x.close(1);
        Due.is("the lowest", Due.open(x, "B", TO_PUT), 1);
        Due.is("the next", Due.open(x, "A", TO_GET), 2);
        Due.is("and no more", Due.open(x, "A", TO_GET), FULL);
        x.close(3);
        Due.is("the last", Due.open(x, "A", TO_GET), 3);
    }

    // "RANGE; NONE; STATE: ...; BUSY: ...; FULL."
    private static void openAnswersInTheirOrder() {
        CountKeyStore x = with(LIBRARY, 2, 1, 1);
        for (int h = 0; h < 4; h++) {
            Due.open(x, "A", TO_GET);
        }
        Due.is("RANGE ahead of BUSY", Due.open(x, "A", 3), RANGE);
        Due.is("NONE ahead of FULL", Due.open(x, "X", TO_GET), NONE);
        Due.is("STATE ahead of BUSY", Due.open(x, "A", TO_CHANGE), STATE);
        Due.is("BUSY ahead of FULL", Due.open(x, "A", TO_PUT), BUSY);
        Due.is("FULL", Due.open(x, "A", TO_GET), FULL);
    }

    // "a FIXED, VARIABLE, SPANNED one has no RECORDS then; of a LIBRARY BLOCKS come behind the last that is there"
    private static void openToPutHasNoRecords() {
        for (int kind : new int[] {FIXED, VARIABLE, SPANNED, LIBRARY}) {
            CountKeyStore x = toPut(kind, 3, kind == FIXED || kind == LIBRARY ? 200 : 0, kind == FIXED || kind == LIBRARY ? 5 : 1000);
            int first = kind == LIBRARY ? 2 : 1;
            for (int i = 0; i < 10; i++) {
                Due.is("put", Due.put(x, 0, Due.row(200, i)), 1);
            }
            if (kind == LIBRARY) {
                Due.stow(x, 0, "M");
            }
            x.close(0);
            Due.is("on the first", x.record(0, first, 0, 4) > 0 ? 1 : 0, 1);
            Due.is("on the second", x.record(0, first + 1, 0, 4) > 0 ? 1 : 0, 1);
            Due.is("to get", Due.open(x, "A", TO_GET), 0);
            Due.is("it stays", x.record(0, first, 0, 4) > 0 ? 1 : 0, 1);
            x.close(0);
            Due.is("to put", Due.open(x, "A", TO_PUT), 0);
            boolean stays = kind == LIBRARY;
            Due.is("the first", x.record(0, first, 0, 4) > 0 ? 1 : 0, stays ? 1 : 0);
            Due.is("the second", x.record(0, first + 1, 0, 4) > 0 ? 1 : 0, stays ? 1 : 0);
            Due.is("the list", x.record(0, 1, 0, 4) > 0 ? 1 : 0, stays ? 1 : 0);
        }
    }

    // The same: not when it is refused, and not when it is opened to change.
    private static void openRefusedKeepsRecords() {
        CountKeyStore x = toPut(FIXED, 1, 1, 1);
        Due.put(x, 0, 7);
        x.close(0);
        Due.open(x, "A", TO_GET);
        Due.is("BUSY", Due.open(x, "A", TO_PUT), BUSY);
        Due.is("it stays", x.record(0, 1, 0, 200), 7);
        x.close(0);
        Due.allocate(x, "B", FIXED, 1, 1, 1);
        for (int h = 0; h < 4; h++) {
            Due.open(x, "B", TO_GET);
        }
        Due.is("FULL", Due.open(x, "A", TO_PUT), FULL);
        Due.is("it stays", x.record(0, 1, 0, 200), 7);
        x.close(0);
        Due.is("to change", Due.open(x, "A", TO_CHANGE), 0);
        Due.is("it stays", x.record(0, 1, 0, 200), 7);
    }

    // "it is closed: 1; NONE."
    private static void closeNone() {
        CountKeyStore x = with(FIXED, 1, 1, 1);
        for (int h : new int[] {-1, 0, 3, 4, MIN, MAX}) {
            Due.is("close " + h, x.close(h), NONE);
        }
        Due.open(x, "A", TO_GET);
        Due.is("close(1)", x.close(1), NONE);
        Due.is("close(0)", x.close(0), 1);
        Due.is("close(0)", x.close(0), NONE);
        Due.is("count(2)", x.count(2), 0);
    }

    // "THE BLOCK that is unfinished is written"
    private static void closeWritesTheBlock() {
        CountKeyStore x = toPut(FIXED, 1, 2, 3);
        Due.is("close with none", x.close(0), 1);
        Due.is("nothing is written", x.record(0, 1, 0, 4), NONE);
        Due.open(x, "A", TO_PUT);
        Due.put(x, 0, 1, 2);
        Due.is("close", x.close(0), 1);
        Due.holds("one record", Due.dataIs(x, 1, 0, 1, 2));
        Due.is("and no more", x.record(0, 1, 1, 4), NONE);
        Due.open(x, "A", TO_PUT);
        for (int i = 0; i < 3; i++) {
            Due.put(x, 0, i, i);
        }
        Due.is("close behind a whole one", x.close(0), 1);
        Due.holds("it", Due.dataIs(x, 1, 0, 0, 0, 1, 1, 2, 2));
        Due.is("and no more", x.record(0, 1, 1, 4), NONE);
        // What is open anew begins with no block.
        Due.open(x, "A", TO_PUT);
        Due.put(x, 0, 5, 5);
        x.close(0);
        Due.open(x, "A", TO_PUT);
        Due.is("none", x.opened(0, 3), 0);
        x.close(0);
        Due.is("none", x.record(0, 1, 0, 4), NONE);
    }

    // "(of a LIBRARY it is given up)"
    private static void closeGivesUpOfALibrary() {
        CountKeyStore x = toPut(LIBRARY, 2, 1, 2);
        Due.put(x, 0, 1);
        x.close(0);
        Due.is("it is not written", x.record(0, 2, 0, 4), NONE);
        Due.open(x, "A", TO_PUT);
        Due.is("nor is it there still", x.opened(0, 3), 0);
        Due.is("stow", Due.stow(x, 0, "M"), 1);
        x.close(0);
        Due.open(x, "A", TO_GET);
        Due.is("the member has none", Due.member(x, 0, "M"), 0);
    }

    // "NONE" (of put)
    private static void putNone() {
        CountKeyStore x = with(FIXED, 1, 1, 1);
        for (int h : new int[] {-1, 0, 3, 4, MIN, MAX}) {
            Due.is("put " + h, Due.put(x, h, 1), NONE);
        }
    }

    // "STATE: it was not opened to put"
    private static void putState() {
        for (int kind = FIXED; kind <= LIBRARY; kind++) {
            CountKeyStore x = with(kind, 2, kind == VARIABLE || kind == SPANNED ? 0 : 1, 8);
            Due.open(x, "A", TO_GET);
            Due.is("to get", Due.put(x, 0, 1), STATE);
            Due.is("ahead of LENGTH", Due.put(x, 0, Due.row(300, 0)), STATE);
            x.close(0);
            if (kind != LIBRARY) {
                Due.open(x, "A", TO_CHANGE);
                Due.is("to change", Due.put(x, 0, 1), STATE);
                Due.is("nothing came", x.opened(0, 2) + x.opened(0, 3), 0);
            }
        }
    }

    // "LENGTH: not a bytes (FIXED, LIBRARY)"
    private static void putLengthFixed() {
        for (int kind = FIXED; kind <= LIBRARY; kind += LIBRARY) {
            for (int a : new int[] {1, 2, 200}) {
                CountKeyStore x = toPut(kind, 2, a, 6);
                Due.is("one less", Due.put(x, 0, Due.row(a - 1, 0)), LENGTH);
                Due.is("one more", Due.put(x, 0, Due.row(a + 1, 0)), LENGTH);
                Due.is("none", Due.put(x, 0), LENGTH);
                Due.is("all at once", Due.put(x, 0, Due.row(6 * a, 0)), LENGTH);
                Due.is("nothing came", x.opened(0, 2) + x.opened(0, 3), 0);
                Due.is("just so", Due.put(x, 0, Due.row(a, 0)), 1);
                Due.is("bytes", x.opened(0, 3), a);
            }
        }
    }

    // "more than b less 4 (VARIABLE)"
    private static void putLengthVariable() {
        for (int b : new int[] {8, 9, 100, 1200}) {
            CountKeyStore x = toPut(VARIABLE, 2, 0, b);
            Due.is("one more", Due.put(x, 0, Due.row(b - 3, 0)), LENGTH);
            Due.is("nothing came", x.opened(0, 2) + x.opened(0, 3), 0);
            Due.is("just so", Due.put(x, 0, Due.row(b - 4, 0)), 1);
            Due.is("bytes", x.opened(0, 3), b);
            x = toPut(VARIABLE, 2, 0, b);
            Due.is("none", Due.put(x, 0), 1);
            Due.is("bytes", x.opened(0, 3), 4);
        }
        CountKeyStore x = toPut(VARIABLE, 2, 0, 1200);
        Due.is("all that the buffer takes", Due.put(x, 0, Due.row(1200, 0)), LENGTH);
    }

    // A SPANNED record may have any length.
    private static void putLengthSpanned() {
        CountKeyStore x = toPut(SPANNED, 20, 0, 8);
        Due.is("none", Due.put(x, 0), 1);
        Due.is("one", Due.put(x, 0, 1), 1);
        Due.is("more than b", Due.put(x, 0, Due.row(9, 1)), 1);
        Due.is("1200", Due.put(x, 0, Due.row(1200, 1)), 1);
        x.close(0);
        Due.open(x, "A", TO_GET);
        int[] due = {0, 1, 9, 1200};
        for (int n : due) {
            Due.is("get", x.get(0), n);
        }
        Due.holds("OUT", Due.outIs(x, Due.row(1200, 1)));
    }

    // "FIXED, LIBRARY: it comes to THE BLOCK that is made; when this has b records it is written."
    private static void fixedBlockOfB() {
        for (int kind = FIXED; kind <= LIBRARY; kind += LIBRARY) {
            CountKeyStore x = toPut(kind, 2, 2, 20);
            int track = kind == FIXED ? 1 : 2;
            for (int i = 1; i < 20; i++) {
                Due.put(x, 0, i, i);
                Due.is("bytes", x.opened(0, 3), 2 * i);
            }
            Due.is("not written", x.record(0, track, 0, 4), NONE);
            Due.put(x, 0, 20, 20);
            Due.is("written", x.record(0, track, 0, 4), 40);
            Due.is("its last byte", x.record(0, track, 0, 239), 20);
            Due.is("none is left", x.opened(0, 3), 0);
            Due.put(x, 0, 21, 21);
            Due.is("a new one", x.opened(0, 3), 2);
            Due.is("not written", x.record(0, track, 1, 4), NONE);
        }
    }

    // The same, of b 1: each record is a BLOCK.
    private static void fixedBlockOfOne() {
        CountKeyStore x = toPut(FIXED, 1, 3, 1);
        for (int i = 0; i < 3; i++) {
            Due.put(x, 0, i, i, i);
            Due.holds("written", Due.dataIs(x, 1, i, i, i, i));
            Due.is("none is left", x.opened(0, 3), 0);
        }
        x.close(0);
        Due.is("no more", x.record(0, 1, 3, 4), NONE);
    }

    // "VARIABLE: if it doesn't fit into THE BLOCK, this is written ahead and a new one is begun."
    private static void variableJustFits() {
        CountKeyStore x = toPut(VARIABLE, 1, 0, 12);
        Due.put(x, 0, 1, 2, 3);
        Due.is("seven", x.opened(0, 3), 7);
        Due.put(x, 0, 4, 5, 6);
        Due.is("five more: full", x.opened(0, 3), 12);
        Due.is("but not written", x.record(0, 1, 0, 4), NONE);
        Due.put(x, 0);
        Due.holds("written ahead", Due.dataIs(x, 1, 0, 0, 12, 0, 5, 1, 2, 3, 0, 5, 4, 5, 6));
        Due.is("a new one", x.opened(0, 3), 4);
        Due.put(x, 0, 1, 2, 3, 4, 5, 6);
        Due.is("eight more: full", x.opened(0, 3), 12);
        x.close(0);
        Due.holds("by close()", Due.dataIs(x, 1, 1, 0, 12, 0, 2, 0, 8, 1, 2, 3, 4, 5, 6));
        // One byte more than fits.
        Due.open(x, "A", TO_PUT);
        Due.put(x, 0, 1, 2, 3);
        Due.put(x, 0, 4, 5, 6, 7);
        Due.holds("written ahead", Due.dataIs(x, 1, 0, 0, 7, 0, 5, 1, 2, 3));
        Due.is("a new one", x.opened(0, 3), 8);
    }

    // The same, of records without bytes.
    private static void variableEmptyRecords() {
        CountKeyStore x = toPut(VARIABLE, 1, 0, 9);
        for (int i = 1; i <= 3; i++) {
            Due.put(x, 0);
            Due.is("bytes", x.opened(0, 3), 2 + 2 * i);
        }
        // One byte is free, and two are wanted.
        Due.put(x, 0);
        Due.is("a new one", x.opened(0, 3), 4);
        Due.holds("three of them", Due.dataIs(x, 1, 0, 0, 8, 0, 2, 0, 2, 0, 2));
        x.close(0);
        Due.open(x, "A", TO_GET);
        for (int i = 0; i < 4; i++) {
            Due.is("get", x.get(0), 0);
        }
        Due.is("get", x.get(0), NONE);
    }

    // "if fewer than 4 bytes are free in THE BLOCK (...), this is written and a new one is begun"
    private static void spannedFourBytesFree() {
        CountKeyStore x = toPut(SPANNED, 1, 0, 10);
        Due.put(x, 0, 1);
        Due.is("four are free", x.opened(0, 3), 6);
        Due.put(x, 0, 2);
        Due.is("one byte fits", x.opened(0, 3), 10);
        Due.is("nothing is written", x.record(0, 1, 0, 4), NONE);
        Due.put(x, 0, 3);
        Due.is("none was free", x.opened(0, 3), 6);
        Due.holds("written", Due.dataIs(x, 1, 0, 0, 10, 0, 4, 0, 1, 0, 4, 0, 2));
        Due.put(x, 0, 4, 5);
        Due.holds("a first piece of one byte", Due.dataIs(x, 1, 1, 0, 10, 0, 4, 0, 3, 0, 4, 1, 4));
        Due.is("the last piece of one byte", x.opened(0, 3), 6);
        x.close(0);
        Due.holds("the last piece", Due.dataIs(x, 1, 2, 0, 6, 0, 4, 2, 5));
    }

    // The same, with three bytes free.
    private static void spannedThreeBytesFree() {
        CountKeyStore x = toPut(SPANNED, 1, 0, 9);
        Due.put(x, 0, 1);
        Due.is("three are free", x.opened(0, 3), 6);
        Due.put(x, 0, 2);
        Due.holds("written", Due.dataIs(x, 1, 0, 0, 6, 0, 4, 0, 1));
        Due.is("a new one", x.opened(0, 3), 6);
    }

    // "(3, if the record has none)" and "(once, if there are none at all)"
    private static void spannedWithoutBytes() {
        CountKeyStore x = toPut(SPANNED, 1, 0, 9);
        Due.put(x, 0, 1);
        Due.put(x, 0);
        Due.is("three were free", x.opened(0, 3), 9);
        Due.is("nothing is written", x.record(0, 1, 0, 4), NONE);
        Due.put(x, 0);
        Due.holds("none was free", Due.dataIs(x, 1, 0, 0, 9, 0, 4, 0, 1, 0, 3, 0));
        Due.is("a new one", x.opened(0, 3), 5);
        x = toPut(SPANNED, 1, 0, 8);
        Due.put(x, 0, 1);
        Due.is("two are free", x.opened(0, 3), 6);
        Due.put(x, 0);
        Due.holds("too few", Due.dataIs(x, 1, 0, 0, 6, 0, 4, 0, 1));
        Due.is("a new one", x.opened(0, 3), 5);
        x.close(0);
        Due.holds("one piece, a whole record", Due.dataIs(x, 1, 1, 0, 5, 0, 3, 0));
        Due.open(x, "A", TO_GET);
        Due.is("get", x.get(0), 1);
        Due.is("get", x.get(0), 0);
        Due.is("OUT", x.count(4), 0);
        Due.is("get", x.get(0), NONE);
    }

    // "a byte: 0 a whole record, 1 its first piece, 2 its last, 3 one between; and the bytes."
    private static void spannedOverSeveral() {
        CountKeyStore x = toPut(SPANNED, 1, 0, 8);
        Due.put(x, 0, 1, 2, 3, 4, 5, 6, 7, 8, 9, 10);
        Due.holds("the first", Due.dataIs(x, 1, 0, 0, 8, 0, 6, 1, 1, 2, 3));
        Due.holds("one between", Due.dataIs(x, 1, 1, 0, 8, 0, 6, 3, 4, 5, 6));
        Due.holds("one between", Due.dataIs(x, 1, 2, 0, 8, 0, 6, 3, 7, 8, 9));
        Due.is("the last waits", x.opened(0, 3), 6);
        x.close(0);
        Due.holds("the last", Due.dataIs(x, 1, 3, 0, 6, 0, 4, 2, 10));
        // Two blocks: no piece between.
        Due.open(x, "A", TO_PUT);
        Due.put(x, 0, 1, 2, 3, 4);
        x.close(0);
        Due.holds("the first", Due.dataIs(x, 1, 0, 0, 8, 0, 6, 1, 1, 2, 3));
        Due.holds("the last", Due.dataIs(x, 1, 1, 0, 6, 0, 4, 2, 4));
    }

    // "as many bytes as fit come to it as a piece": no piece without bytes behind one that just fits
    private static void spannedToTheEnd() {
        CountKeyStore x = toPut(SPANNED, 1, 0, 8);
        Due.put(x, 0, 1, 2, 3);
        Due.is("full", x.opened(0, 3), 8);
        Due.is("not written", x.record(0, 1, 0, 4), NONE);
        Due.put(x, 0, 4, 5, 6, 7, 8, 9);
        Due.holds("a whole one", Due.dataIs(x, 1, 0, 0, 8, 0, 6, 0, 1, 2, 3));
        Due.holds("the first", Due.dataIs(x, 1, 1, 0, 8, 0, 6, 1, 4, 5, 6));
        Due.is("the last is full", x.opened(0, 3), 8);
        x.close(0);
        Due.holds("the last", Due.dataIs(x, 1, 2, 0, 8, 0, 6, 2, 7, 8, 9));
        Due.is("and no more", x.record(0, 1, 3, 4), NONE);
    }

    // The same, of blocks with 1200 bytes: lengths of two bytes.
    private static void spannedLongest() {
        CountKeyStore x = toPut(SPANNED, 2, 0, 1200);
        Due.put(x, 0, Due.row(1195, 1));
        Due.is("full", x.opened(0, 3), 1200);
        x.close(0);
        int[] head = {4, 176, 4, 174, 0, 1};
        for (int i = 0; i < 6; i++) {
            Due.is("byte " + i, x.record(0, 1, 0, 200 + i), head[i]);
        }
        Due.open(x, "A", TO_PUT);
        Due.put(x, 0, Due.row(1196, 1));
        Due.is("one byte in the next", x.opened(0, 3), 6);
        x.close(0);
        Due.is("a first piece", x.record(0, 1, 0, 204), 1);
        Due.holds("the last", Due.dataIs(x, 1, 1, 0, 6, 0, 4, 2, 1196 % 256));
    }

    // "A BLOCK is written behind the last one: on its TRACK, if there is room"
    private static void blockOnItsTrack() {
        // Three blocks of 460 take 490 places each: to 1500.
        CountKeyStore x = toPut(FIXED, 2, 115, 4);
        for (int i = 0; i < 12; i++) {
            Due.is("put", Due.put(x, 0, Due.row(115, i)), 1);
        }
        Due.is("the third", x.record(0, 1, 2, 5), 1010);
        Due.is("none on the next", x.record(0, 2, 0, 5), NONE);
        Due.put(x, 0, Due.row(115, 12));
        x.close(0);
        Due.is("the fourth is on the next", x.record(0, 2, 0, 4), 115);
        // The last one, with fewer records, goes on the track where they still fit.
        x = toPut(FIXED, 2, 200, 6);
        for (int i = 0; i < 7; i++) {
            Due.put(x, 0, Due.row(200, i));
        }
        x.close(0);
        Due.is("it fits", x.record(0, 1, 1, 4), 200);
        Due.is("none on the next", x.record(0, 2, 0, 4), NONE);
    }

    // "else on the next TRACK on which there is"
    private static void blockOnTheNextTrack() {
        // Three blocks of 461 take one place too many.
        CountKeyStore x = toPut(VARIABLE, 2, 0, 461);
        for (int i = 0; i < 3; i++) {
            Due.is("put", Due.put(x, 0, Due.row(457, i)), 1);
        }
        x.close(0);
        Due.is("the second", x.record(0, 1, 1, 5), 521);
        Due.is("no third", x.record(0, 1, 2, 5), NONE);
        Due.is("it is on the next", x.record(0, 2, 0, 4), 461);
        // A small one behind it stays behind it, though the first track has room.
        Due.open(x, "A", TO_PUT);
        for (int i = 0; i < 3; i++) {
            Due.put(x, 0, Due.row(457, i));
        }
        Due.put(x, 0, 1);
        x.close(0);
        Due.is("the small one", x.record(0, 2, 1, 4), 5);
        Due.is("not on the first", x.record(0, 1, 2, 4), NONE);
        // One place more is one byte less.
        x = toPut(VARIABLE, 2, 0, 460);
        for (int i = 0; i < 3; i++) {
            Due.put(x, 0, Due.row(456, i));
        }
        x.close(0);
        Due.is("the third", x.record(0, 1, 2, 4), 460);
    }

    // "RECORDS with the cylinder and head of their TRACK and, on it, the numbers 1, 2, .. ."
    private static void numbersOnATrack() {
        // 49 places a block of 19: 30 of them a track.
        CountKeyStore x = toPut(FIXED, 4, 19, 1);
        for (int i = 0; i < 61; i++) {
            Due.put(x, 0, Due.row(19, i));
        }
        for (int track = 1; track <= 3; track++) {
            int n = track < 3 ? 30 : 1;
            for (int k = 0; k < n; k++) {
                Due.is("cylinder", x.record(0, track, k, 0), 0);
                Due.is("head", x.record(0, track, k, 1), track);
                Due.is("number", x.record(0, track, k, 2), k + 1);
                Due.is("no key", x.record(0, track, k, 3), 0);
            }
            Due.is("no more", x.record(0, track, n, 2), NONE);
        }
    }

    // "its TRACKS are counted from 0 on, EXTENT by EXTENT."
    private static void blocksInExtents() {
        CountKeyStore x = new CountKeyStore();
        Due.allocate(x, "P", FIXED, 1, 1, 1);
        Due.allocate(x, "A", FIXED, 1, 200, 6);
        Due.fill(x, "P");
        x.scratch();
        Due.allocate(x, "Q", FIXED, 1, 1, 1);
        Due.fill(x, "A");
        Due.is("3 is right behind 2", x.extend(1), 2);
        Due.fill(x, "Q");
        x.scratch();
        Due.fill(x, "A");
        Due.is("1 comes last", x.extend(1), 3);
        Due.open(x, "A", TO_PUT);
        for (int i = 0; i < 13; i++) {
            Due.put(x, 0, Due.row(200, i));
        }
        Due.put(x, 0, Due.row(200, 13));
        x.close(0);
        Due.is("the first", x.record(0, 2, 0, 200), 0);
        Due.is("the second", x.record(0, 3, 0, 200), 6);
        Due.is("the third", x.record(0, 1, 0, 200), 12);
        Due.is("its head", x.record(0, 1, 0, 1), 1);
        Due.open(x, "A", TO_GET);
        for (int i = 0; i < 14; i++) {
            Due.is("get", x.get(0), 200);
            Due.is("OUT", x.out(0), i);
        }
        Due.is("get", x.get(0), NONE);
    }

    // "A put is refused, if not all that it writes, and THE BLOCK that is left by it (if any), could be written now."
    private static void fixedFull() {
        // Blocks of 460: three of them fill the track to 1500.
        CountKeyStore x = toPut(FIXED, 1, 115, 4);
        for (int i = 0; i < 12; i++) {
            Due.is("put", Due.put(x, 0, Due.row(115, i)), 1);
        }
        Due.is("not one more", Due.put(x, 0, Due.row(115, 12)), FULL);
        // Two of 570, then 330 places: one record of 180, not two.
        x = toPut(FIXED, 1, 180, 3);
        for (int i = 0; i < 7; i++) {
            Due.is("put", Due.put(x, 0, Due.row(180, i)), 1);
        }
        Due.is("the block left by it would not fit", Due.put(x, 0, Due.row(180, 7)), FULL);
        Due.is("what is left", x.opened(0, 3), 180);
        // Of one and of two records: 240 and 440 places are left behind 1230 and 1030.
        x = toPut(FIXED, 1, 100, 10);
        for (int i = 0; i < 14; i++) {
            Due.is("put " + i, Due.put(x, 0, Due.row(100, i)), 1);
        }
        Due.is("400 and 30 of 440", x.opened(0, 3), 400);
        Due.is("500 are too many", Due.put(x, 0, Due.row(100, 14)), FULL);
    }

    // The same: what it writes could be written, what it leaves could not.
    private static void variableFullByWhatIsLeft() {
        CountKeyStore x = toPut(VARIABLE, 1, 0, 1000);
        Due.put(x, 0, Due.row(996, 0));
        Due.is("one byte more than is left", Due.put(x, 0, Due.row(407, 0)), FULL);
        Due.is("nothing is written", x.record(0, 1, 0, 4), NONE);
        Due.is("the block stays", x.opened(0, 3), 1000);
        Due.is("just what is left", Due.put(x, 0, Due.row(406, 0)), 1);
        Due.is("it is written", x.record(0, 1, 0, 4), 1000);
        Due.is("what is left", x.opened(0, 3), 410);
        Due.is("not even none", Due.put(x, 0), FULL);
        x.close(0);
        Due.is("to 1500", x.record(0, 1, 1, 5) + 30 + x.record(0, 1, 1, 4), 1500);
    }

    // The same: it would fit into THE BLOCK, but this then not on the TRACK.
    private static void variableFullByWhatIsWritten() {
        CountKeyStore x = toPut(VARIABLE, 1, 0, 1000);
        Due.put(x, 0, Due.row(996, 0));
        Due.is("400", Due.put(x, 0, Due.row(400, 0)), 1);
        Due.is("404 of 410", x.opened(0, 3), 404);
        Due.is("seven more", Due.put(x, 0, 1, 2, 3, 4, 5), FULL);
        Due.is("six more", Due.put(x, 0, 1, 2, 3, 4), 1);
        Due.is("not two more", Due.put(x, 0), FULL);
        Due.is("410", x.opened(0, 3), 410);
        Due.is("records", x.opened(0, 2), 3);
    }

    // The same: a record that just fits into the last BLOCK of a TRACK, and one byte more.
    private static void variableJustFitsTheLast() {
        // Two blocks of 460 are there: 490 places are left, just one more.
        for (int n : new int[] {0, 1, 50}) {
            CountKeyStore x = toPut(VARIABLE, 1, 0, 460);
            Due.put(x, 0, Due.row(456, 1));
            Due.put(x, 0, Due.row(456, 2));
            Due.is("put", Due.put(x, 0, Due.row(454 - n, 3)), 1);
            Due.is("what is free", x.opened(0, 3), 460 - 2 - n);
            Due.is("one byte more", Due.put(x, 0, Due.row(n + 1, 4)), FULL);
            Due.is("just so", Due.put(x, 0, Due.row(n, 4)), 1);
            x.close(0);
            Due.is("to 1500", x.record(0, 1, 2, 5) + 30 + x.record(0, 1, 2, 4), 1500);
        }
        // Two of 459 leave 492: a block of 460 would fit there, but none may have so many bytes.
        for (int n : new int[] {0, 1, 50}) {
            CountKeyStore x = toPut(VARIABLE, 1, 0, 459);
            Due.put(x, 0, Due.row(455, 1));
            Due.put(x, 0, Due.row(455, 2));
            Due.is("put", Due.put(x, 0, Due.row(453 - n, 3)), 1);
            Due.is("one byte more", Due.put(x, 0, Due.row(n + 1, 4)), FULL);
            Due.is("the block stays", x.opened(0, 3), 457 - n);
            Due.is("just so", Due.put(x, 0, Due.row(n, 4)), 1);
        }
    }

    // The same, of a SPANNED one: a piece of one byte, or of none, that just fits.
    private static void spannedJustFitsTheLast() {
        for (int n = 0; n < 2; n++) {
            CountKeyStore x = toPut(SPANNED, 1, 0, 460);
            Due.put(x, 0, Due.row(455, 1));
            Due.put(x, 0, Due.row(455, 2));
            Due.is("put", Due.put(x, 0, Due.row(452 - n, 3)), 1);
            Due.is("three or four are free", x.opened(0, 3), 457 - n);
            Due.is("one byte more", Due.put(x, 0, Due.row(n + 1, 4)), FULL);
            Due.is("just so", Due.put(x, 0, Due.row(n, 4)), 1);
            Due.is("full", x.opened(0, 3), 460);
            Due.is("not even none", Due.put(x, 0), FULL);
            x.close(0);
            Due.is("to 1500", x.record(0, 1, 2, 5) + 30 + x.record(0, 1, 2, 4), 1500);
        }
        // Two are free: too few even for none.
        CountKeyStore x = toPut(SPANNED, 1, 0, 460);
        Due.put(x, 0, Due.row(455, 1));
        Due.put(x, 0, Due.row(455, 2));
        Due.put(x, 0, Due.row(453, 3));
        Due.is("two are free", x.opened(0, 3), 458);
        Due.is("none", Due.put(x, 0), FULL);
    }

    // The same, of a SPANNED one.
    private static void spannedFullByWhatIsLeft() {
        CountKeyStore x = toPut(SPANNED, 1, 0, 1000);
        // 2 and 3 and 900: 95 are free, of which 92 are bytes; then 440 places: 410, of which 405 are bytes.
        Due.put(x, 0, Due.row(900, 0));
        Due.is("one byte more", Due.put(x, 0, Due.row(92 + 405 + 1, 0)), FULL);
        Due.is("nothing is written", x.record(0, 1, 0, 4), NONE);
        Due.is("the block stays", x.opened(0, 3), 905);
        Due.is("just so", Due.put(x, 0, Due.row(92 + 405, 0)), 1);
        Due.is("it is written", x.record(0, 1, 0, 4), 1000);
        Due.is("what is left", x.opened(0, 3), 410);
        Due.is("not even none", Due.put(x, 0), FULL);
        x.close(0);
        Due.is("to 1500", x.record(0, 1, 1, 5) + 30 + x.record(0, 1, 1, 4), 1500);
    }

    // The same: a record over more BLOCKS than there is room for, by one of many.
    private static void spannedFullByWhatIsWritten() {
        // 38 places a block of 8, three bytes each: 38 of them a track (1444 of 1470 places).
        CountKeyStore x = toPut(SPANNED, 1, 0, 8);
        Due.is("118 bytes: 40 blocks", Due.put(x, 0, Due.row(118, 0)), FULL);
        Due.is("1200 bytes", Due.put(x, 0, Due.row(1200, 0)), FULL);
        Due.is("115 bytes: 39 blocks", Due.put(x, 0, Due.row(115, 0)), FULL);
        Due.is("nothing is written", x.record(0, 1, 0, 4), NONE);
        Due.is("no block is begun", x.opened(0, 3), 0);
        Due.is("114 bytes: 38 blocks", Due.put(x, 0, Due.row(114, 0)), 1);
        Due.is("37 are written", x.record(0, 1, 36, 4), 8);
        Due.is("the last waits", x.record(0, 1, 37, 4), NONE);
        Due.is("no more", Due.put(x, 0, 1), FULL);
        x.close(0);
        Due.is("the last", x.record(0, 1, 37, 2), 38);
        // On two tracks: 76 blocks.
        x = toPut(SPANNED, 2, 0, 8);
        Due.is("229 bytes", Due.put(x, 0, Due.row(229, 0)), FULL);
        Due.is("228 bytes", Due.put(x, 0, Due.row(228, 0)), 1);
        x.close(0);
        Due.is("the last", x.record(0, 2, 37, 2), 38);
    }

    // The same: a put that is refused leaves all but the buffer as it is.
    private static void fullChangesNothing() {
        CountKeyStore x = toPut(VARIABLE, 1, 0, 500);
        Due.put(x, 0, Due.row(490, 1));
        Due.put(x, 0, Due.row(490, 2));
        // 494 and 494 with 60: 422 places are left, 392 of a block, 388 of a record.
        Due.is("one byte more", Due.put(x, 0, Due.row(389, 3)), FULL);
        Due.is("the buffer is empty", x.count(3), 0);
        Due.is("records", x.opened(0, 2), 2);
        Due.is("the block", x.opened(0, 3), 494);
        Due.is("one is written", x.record(0, 1, 0, 4), 494);
        Due.is("the other is not", x.record(0, 1, 1, 4), NONE);
        Due.is("a smaller one is taken", Due.put(x, 0, Due.row(388, 3)), 1);
        x.close(0);
        Due.open(x, "A", TO_GET);
        int[] due = {490, 490, 388};
        for (int i = 0; i < 3; i++) {
            Due.is("get", x.get(0), due[i]);
            Due.is("OUT", x.out(0), i + 1);
        }
        Due.is("get", x.get(0), NONE);
    }

    // "could be written now" (what was refused is taken when there are more TRACKS)
    private static void extendMakesRoom() {
        CountKeyStore x = toPut(VARIABLE, 1, 0, 1200);
        Due.put(x, 0, Due.row(1196, 1));
        Due.is("no room", Due.put(x, 0, Due.row(1196, 2)), FULL);
        Due.fill(x, "A");
        Due.is("extend", x.extend(1), 2);
        Due.is("room", Due.put(x, 0, Due.row(1196, 2)), 1);
        x.close(0);
        Due.is("on the new track", x.record(0, 2, 0, 4), 1200);
        Due.is("its first byte", x.record(0, 2, 0, 204), 2);
    }

    // "of a LIBRARY BLOCKS come behind the last that is there"
    private static void libraryBehindTheLast() {
        CountKeyStore x = toPut(LIBRARY, 3, 200, 6);
        for (int i = 0; i < 12; i++) {
            Due.is("put", Due.put(x, 0, Due.row(200, i)), 1);
        }
        Due.is("one more fits", Due.put(x, 0, Due.row(200, 12)), 1);
        Due.is("two do not", Due.put(x, 0, Due.row(200, 13)), FULL);
        // What is given up takes room still.
        x.close(0);
        Due.open(x, "A", TO_PUT);
        Due.is("on the second track", x.record(0, 3, 0, 4), 1200);
        Due.is("one more fits", Due.put(x, 0, Due.row(200, 14)), 1);
        Due.is("stow", Due.stow(x, 0, "M"), 1);
        Due.is("behind it", x.record(0, 3, 1, 200), 14);
        Due.is("no more", Due.put(x, 0, Due.row(200, 15)), FULL);
        Due.is("the list has its track for itself", x.record(0, 1, 0, 4), 12);
    }

    // "Of what is open as h, ... NONE when there is none such."
    private static void openedNone() {
        CountKeyStore x = with(FIXED, 1, 1, 2);
        for (int what = 0; what < 4; what++) {
            for (int h : new int[] {-1, 0, 1, 2, 3, 4, MIN, MAX}) {
                Due.is("opened", x.opened(h, what), NONE);
            }
        }
        Due.allocate(x, "B", FIXED, 1, 1, 2);
        Due.open(x, "B", TO_CHANGE);
        int[] due = {1, TO_CHANGE, 0, 0};
        for (int what = 0; what < 4; what++) {
            Due.is("what " + what, x.opened(0, what), due[what]);
            Due.is("h 1", x.opened(1, what), NONE);
        }
        for (int what : new int[] {-1, 4, MIN, MAX}) {
            Due.is("what " + what, x.opened(0, what), NONE);
        }
        x.close(0);
        for (int what = 0; what < 4; what++) {
            Due.is("closed", x.opened(0, what), NONE);
        }
    }

    // "2: records put or got since it was opened (by a KEY, too)"
    private static void openedCounts() {
        CountKeyStore x = toPut(FIXED, 1, 1, 2);
        Due.put(x, 0, 1);
        Due.put(x, 0, 1, 2);
        Due.put(x, 0, 2);
        Due.put(x, 0, 3);
        Due.is("three, and not what is refused", x.opened(0, 2), 3);
        x.close(0);
        Due.open(x, "A", TO_CHANGE);
        Due.is("since it was opened", x.opened(0, 2), 0);
        x.get(0);
        Due.fill(x, 9);
        x.rewrite(0);
        Due.is("one; rewrite() is neither", x.opened(0, 2), 1);
        x.get(0);
        x.spoil(0, 1, 1);
        Due.is("CHECK", x.get(0), CHECK);
        Due.is("NONE", x.get(0), NONE);
        Due.is("two", x.opened(0, 2), 2);
        Due.allocate(x, "D", DIRECT, 1, 1, 1);
        Due.open(x, "D", TO_CHANGE);
        Due.fill(x, 1, 1);
        x.putKeyed(1);
        Due.fill(x, 1, 2);
        x.putKeyed(1);
        Due.fill(x, 1);
        x.getKeyed(1);
        Due.fill(x, 2);
        Due.is("NONE", x.getKeyed(1), NONE);
        Due.fill(x, 2);
        Due.is("LENGTH", x.putKeyed(1), LENGTH);
        Due.is("three by a KEY", x.opened(1, 2), 3);
        Due.is("the other's stay", x.opened(0, 2), 2);
    }

    // "3: bytes of THE BLOCK that is unfinished (0 without)."
    private static void openedBytes() {
        CountKeyStore x = toPut(SPANNED, 1, 0, 20);
        Due.is("without", x.opened(0, 3), 0);
        Due.put(x, 0);
        Due.is("with the two ahead", x.opened(0, 3), 5);
        x.close(0);
        Due.open(x, "A", TO_GET);
        Due.is("to get", x.opened(0, 3), 0);
        x.get(0);
        Due.is("to get", x.opened(0, 3), 0);
        x = toPut(LIBRARY, 2, 3, 4);
        Due.put(x, 0, 1, 2, 3);
        Due.is("of a LIBRARY", x.opened(0, 3), 3);
        Due.stow(x, 0, "M");
        Due.is("stowed", x.opened(0, 3), 0);
    }
}
