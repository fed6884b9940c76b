/** Promises 26 to 30: the members of a library, their list, and the library pressed together. */
public final class LibraryTest {
    public static void main(String[] args) {
        states();
        membersAndTheirList();
        manyMembers();
        inPlaceOfAnother();
        withoutBlocks();
        whatIsGivenUp();
        choosing();
        spoiledUnderWay();
        readingOverTracks();
        dropping();
        pressing();
        pressingOverTracks();
        fullLibrary();
        pressedMarks();
        Due.settle();
    }

    /** A library LIB of records of a bytes, b of them a block. */
    private static CountKeyStore with(int tracks, int a, int b) {
        CountKeyStore x = new CountKeyStore();
        Due.is("allocate", Due.allocate(x, "LIB", 4, tracks, a, b), 0);
        return x;
    }

    /** A member with so many records of a bytes, counted up from a first byte. */
    private static void add(CountKeyStore x, String name, int a, int n, int first) {
        int h = Due.open(x, "LIB", 1);
        for (int i = 0; i < n; i++) {
            Due.is("put", Due.put(x, h, Due.row(a, first + i)), 1);
        }
        Due.holds("stow", Due.stow(x, h, name) > 0);
        Due.is("close", x.close(h), 1);
    }

    /** The member has just these records. */
    private static void holds(CountKeyStore x, String name, int a, int n, int first) {
        int h = Due.open(x, "LIB", 0);
        Due.holds("member " + name, Due.member(x, h, name) >= 0);
        for (int i = 0; i < n; i++) {
            Due.is("get", x.get(h), a);
            Due.holds("OUT of " + name + " " + i, Due.outIs(x, Due.row(a, first + i)));
        }
        Due.is("get", x.get(h), CountKeyStore.NONE);
        Due.is("close", x.close(h), 1);
    }

    private static void states() {
        CountKeyStore x = with(2, 1, 1);
        Due.allocate(x, "F", 0, 1, 1, 1);
        for (int h : new int[] {-1, 0, 3, 4, Integer.MAX_VALUE, Integer.MIN_VALUE}) {
            Due.is("member", Due.member(x, h, "A"), CountKeyStore.STATE);
            Due.is("stow", Due.stow(x, h, "A"), CountKeyStore.STATE);
        }
        for (int d : new int[] {-1, 1, 2, 9, 10, Integer.MAX_VALUE, Integer.MIN_VALUE}) {
            Due.is("memberAt", x.memberAt(d, 0), CountKeyStore.NONE);
            Due.is("drop", x.drop(d, 0), CountKeyStore.NONE);
            Due.is("press", x.press(d), CountKeyStore.NONE);
        }
        Due.open(x, "F", 1);
        Due.is("no LIBRARY", Due.stow(x, 0, "A"), CountKeyStore.STATE);
        x.close(0);
        Due.open(x, "F", 0);
        Due.is("no LIBRARY", Due.member(x, 0, "A"), CountKeyStore.STATE);
        Due.open(x, "LIB", 1);
        Due.is("opened to put", Due.member(x, 1, "A"), CountKeyStore.STATE);
        Due.is("count(3)", x.count(3), 0);
        Due.is("press of an open one", x.press(0), CountKeyStore.BUSY);
        Due.is("stow", Due.stow(x, 1, "A"), 1);
        Due.is("no member -1", x.drop(0, -1), CountKeyStore.NONE);
        Due.is("no member 1", x.drop(0, 1), CountKeyStore.NONE);
        Due.is("no member 1", x.memberAt(0, 1), CountKeyStore.NONE);
        Due.is("no member -1", x.memberAt(0, -1), CountKeyStore.NONE);
        Due.is("open to put", x.drop(0, 0), CountKeyStore.BUSY);
        x.close(1);
        Due.open(x, "LIB", 0);
        Due.is("opened to get", Due.stow(x, 1, "B"), CountKeyStore.STATE);
        Due.is("put", Due.put(x, 1, 1), CountKeyStore.STATE);
        Due.is("press of an open one", x.press(0), CountKeyStore.BUSY);
        Due.is("drop while it is open to get", x.drop(0, 0), 0);
        x.close(1);
        Due.is("press", x.press(0), 0);
    }

    private static void membersAndTheirList() {
        CountKeyStore x = with(3, 2, 2);
        int h = Due.open(x, "LIB", 1);
        Due.is("put", Due.put(x, h, 1, 2), 1);
        Due.is("put", Due.put(x, h, 3, 4), 1);
        Due.is("the block is written", x.opened(h, 3), 0);
        Due.is("put", Due.put(x, h, 5, 6), 1);
        Due.is("opened(h, 3)", x.opened(h, 3), 2);
        Due.is("a wrong length", Due.put(x, h, 5), CountKeyStore.LENGTH);
        Due.is("stow", Due.stow(x, h, "MM"), 1);
        Due.is("opened(h, 3)", x.opened(h, 3), 0);
        Due.is("opened(h, 2)", x.opened(h, 2), 3);
        Due.is("put", Due.put(x, h, 7, 8), 1);
        Due.is("stow", Due.stow(x, h, "AA"), 2);
        Due.is("opened(h, 2)", x.opened(h, 2), 4);
        x.close(h);
        // The list is on track 1 of the unit, the blocks from track 2 on.
        Due.is("one record", x.record(0, 1, 1, 0), CountKeyStore.NONE);
        Due.is("cylinder", x.record(0, 1, 0, 0), 0);
        Due.is("head", x.record(0, 1, 0, 1), 1);
        Due.is("number", x.record(0, 1, 0, 2), 1);
        Due.holds("the last one's name", Due.keyIs(x, 0, 1, 0, 'M', 'M', 32, 32, 32, 32, 32, 32));
        Due.holds("the list", Due.dataIs(x, 1, 0, 'A', 'A', 32, 32, 32, 32, 32, 32, 1, 3, 0, 1,
                'M', 'M', 32, 32, 32, 32, 32, 32, 1, 1, 0, 2));
        Due.holds("a block", Due.dataIs(x, 2, 0, 1, 2, 3, 4));
        Due.holds("a block", Due.dataIs(x, 2, 1, 5, 6));
        Due.holds("a block", Due.dataIs(x, 2, 2, 7, 8));
        Due.is("its head", x.record(0, 2, 2, 1), 2);
        Due.is("its number", x.record(0, 2, 2, 2), 3);
        Due.is("memberAt", x.memberAt(0, 0), 8);
        Due.is("OUT", Due.out(x).equals("AA      ") ? 1 : 0, 1);
        Due.is("memberAt", x.memberAt(0, 1), 8);
        Due.is("OUT", Due.out(x).equals("MM      ") ? 1 : 0, 1);
        Due.is("memberAt", x.memberAt(0, 2), CountKeyStore.NONE);
        Due.is("OUT stays", Due.out(x).equals("MM      ") ? 1 : 0, 1);
        h = Due.open(x, "LIB", 0);
        Due.is("without a member", x.get(h), CountKeyStore.STATE);
        Due.is("member", Due.member(x, h, "MM"), 2);
        Due.is("get", x.get(h), 2);
        Due.holds("OUT", Due.outIs(x, 1, 2));
        x.close(h);
    }

    private static void manyMembers() {
        CountKeyStore x = with(2, 1, 1);
        int h = Due.open(x, "LIB", 1);
        for (int i = 0; i < 40; i++) {
            // From both ends, bytes above 127 among them.
            Due.fill(x, i % 2 == 0 ? i * 3 : 255 - i * 3);
            Due.is("stow", x.stow(h), i + 1);
        }
        Due.is("put", Due.put(x, h, 77), 1);
        Due.fill(x, 1, 1, 1);
        Due.is("the 41st", x.stow(h), CountKeyStore.FULL);
        Due.is("count(3)", x.count(3), 0);
        Due.is("put", Due.put(x, h, 78), 1);
        Due.fill(x, 0);
        Due.is("in place of one", x.stow(h), 40);
        x.close(h);
        int last = -1;
        for (int i = 0; i < 40; i++) {
            Due.is("memberAt", x.memberAt(0, i), 8);
            Due.holds("by name", x.out(0) > last);
            last = x.out(0);
        }
        for (int k = 0; k < 10; k++) {
            Due.is("number", x.record(0, 1, k, 2), k + 1);
            Due.is("four a record", x.record(0, 1, k, 4), 48);
            Due.is("the key is the last one's name", x.record(0, 1, k, 100), x.record(0, 1, k, 236));
        }
        Due.is("ten records", x.record(0, 1, 10, 2), CountKeyStore.NONE);
        h = Due.open(x, "LIB", 0);
        Due.fill(x, 0);
        Due.is("what was put stayed to be stowed", x.member(h), 2);
        x.get(h);
        Due.is("OUT", x.out(0), 77);
        x.get(h);
        Due.is("OUT", x.out(0), 78);
        Due.is("drop", x.drop(0, 39), 39);
        Due.is("the last record has three", x.record(0, 1, 9, 4), 36);
    }

    private static void inPlaceOfAnother() {
        CountKeyStore x = with(2, 1, 2);
        add(x, "A", 1, 3, 10);
        add(x, "B", 1, 1, 20);
        add(x, "A", 1, 2, 30);
        Due.is("two members", x.dataSet(0, 6), 2);
        Due.holds("the list", Due.dataIs(x, 1, 0, 'A', 32, 32, 32, 32, 32, 32, 32, 1, 4, 0, 1,
                'B', 32, 32, 32, 32, 32, 32, 32, 1, 3, 0, 1));
        holds(x, "A", 1, 2, 30);
        holds(x, "B", 1, 1, 20);
        Due.is("its blocks are there still", x.record(0, 2, 0, 200), 10);
        x.spoil(0, 1, 0);
        add(x, "C", 1, 1, 40);
        Due.is("the list is written anew", x.record(0, 1, 0, 6), 0);
    }

    private static void withoutBlocks() {
        CountKeyStore x = with(2, 1, 2);
        add(x, "E", 1, 0, 0);
        Due.holds("0, 0, 0", Due.dataIs(x, 1, 0, 'E', 32, 32, 32, 32, 32, 32, 32, 0, 0, 0, 0));
        int h = Due.open(x, "LIB", 0);
        Due.is("member", Due.member(x, h, "E"), 0);
        Due.is("get", x.get(h), CountKeyStore.NONE);
        x.close(h);
        add(x, "A", 1, 1, 7);
        add(x, "A", 1, 0, 0);
        holds(x, "A", 1, 0, 0);
        Due.is("press", x.press(0), 0);
        Due.is("nothing is left", x.record(0, 2, 0, 0), CountKeyStore.NONE);
        Due.is("two members", x.dataSet(0, 6), 2);
    }

    private static void whatIsGivenUp() {
        CountKeyStore x = with(2, 1, 2);
        int h = Due.open(x, "LIB", 1);
        for (int i = 1; i <= 3; i++) {
            Due.put(x, h, i);
        }
        x.close(h);
        Due.holds("a whole block is there", Due.dataIs(x, 2, 0, 1, 2));
        Due.is("the unfinished one is not", x.record(0, 2, 1, 0), CountKeyStore.NONE);
        Due.is("no members", x.dataSet(0, 6), 0);
        h = Due.open(x, "LIB", 1);
        Due.put(x, h, 9);
        Due.is("stow", Due.stow(x, h, "A"), 1);
        x.close(h);
        Due.is("behind the last that is there", x.record(0, 2, 1, 200), 9);
        holds(x, "A", 1, 1, 9);
        Due.is("press", x.press(0), 1);
        Due.is("it is the first now", x.record(0, 2, 0, 200), 9);
        holds(x, "A", 1, 1, 9);
    }

    private static void choosing() {
        CountKeyStore x = with(2, 1, 2);
        add(x, "A", 1, 3, 10);
        add(x, "B", 1, 1, 20);
        int h = Due.open(x, "LIB", 0);
        Due.is("none such", Due.member(x, h, "X"), CountKeyStore.NONE);
        Due.is("still none", x.get(h), CountKeyStore.STATE);
        Due.is("A", Due.member(x, h, "A"), 2);
        x.get(h);
        Due.is("none such", Due.member(x, h, "X"), CountKeyStore.NONE);
        Due.is("the one before stays", x.get(h), 1);
        Due.is("OUT", x.out(0), 11);
        Due.is("from its first record on", Due.member(x, h, "A"), 2);
        x.get(h);
        Due.is("OUT", x.out(0), 10);
        Due.is("B", Due.member(x, h, "B"), 1);
        x.get(h);
        Due.is("OUT", x.out(0), 20);
        Due.is("its end", x.get(h), CountKeyStore.NONE);
        Due.is("opened(h, 2)", x.opened(h, 2), 4);
        x.spoil(0, 2, 0);
        Due.is("A", Due.member(x, h, "A"), 2);
        Due.is("CHECK", x.get(h), CountKeyStore.CHECK);
        Due.is("OUT stays", x.out(0), 20);
        Due.is("get", x.get(h), 1);
        Due.is("OUT", x.out(0), 12);
        Due.is("not on into B", x.get(h), CountKeyStore.NONE);
        Due.is("A", Due.member(x, h, "A"), 2);
        Due.is("drop", x.drop(0, 0), 1);
        Due.is("A is gone", Due.member(x, h, "A"), CountKeyStore.NONE);
        Due.is("but what was chosen is read on", x.get(h), CountKeyStore.CHECK);
    }

    private static void spoiledUnderWay() {
        CountKeyStore x = with(2, 1, 2);
        add(x, "A", 1, 3, 10);
        int h = Due.open(x, "LIB", 0);
        Due.is("A", Due.member(x, h, "A"), 2);
        Due.is("get", x.get(h), 1);
        x.spoil(0, 2, 0);
        Due.is("none such", Due.member(x, h, "X"), CountKeyStore.NONE);
        Due.is("the block is under way still", x.get(h), 1);
        Due.is("OUT", x.out(0), 11);
        Due.is("A anew", Due.member(x, h, "A"), 2);
        Due.is("it is the next one now", x.get(h), CountKeyStore.CHECK);
        Due.is("get", x.get(h), 1);
        Due.is("OUT", x.out(0), 12);
    }

    private static void readingOverTracks() {
        // A block of 600 takes 630 places: two a track.
        CountKeyStore x = with(4, 200, 3);
        add(x, "A", 200, 3, 0);
        add(x, "B", 200, 9, 50);
        add(x, "C", 200, 2, 100);
        Due.is("A and B", x.record(0, 2, 1, 200), 50);
        Due.is("B", x.record(0, 3, 1, 200), 56);
        Due.is("C", x.record(0, 4, 0, 200), 100);
        holds(x, "A", 200, 3, 0);
        holds(x, "B", 200, 9, 50);
        holds(x, "C", 200, 2, 100);
    }

    private static void dropping() {
        CountKeyStore x = with(2, 1, 1);
        for (int i = 0; i < 6; i++) {
            add(x, "" + (char) ('A' + i), 1, 1, i);
        }
        x.spoil(0, 1, 0);
        Due.is("drop", x.drop(0, 2), 5);
        Due.is("the list is written anew", x.record(0, 1, 0, 6), 0);
        Due.is("the fourth is E", x.record(0, 1, 0, 100), 'E');
        Due.is("the second record has F", x.record(0, 1, 1, 4), 12);
        Due.is("drop", x.drop(0, 4), 4);
        Due.is("one record", x.record(0, 1, 1, 4), CountKeyStore.NONE);
        Due.is("drop", x.drop(0, 4), CountKeyStore.NONE);
        Due.is("the blocks are there still", x.record(0, 2, 5, 200), 5);
        holds(x, "B", 1, 1, 1);
        holds(x, "D", 1, 1, 3);
    }

    private static void pressing() {
        CountKeyStore x = with(3, 1, 2);
        add(x, "C", 1, 3, 10);
        add(x, "A", 1, 3, 20);
        add(x, "B", 1, 2, 30);
        add(x, "Z", 1, 0, 0);
        add(x, "C", 1, 1, 40);
        x.drop(0, 1);
        Due.is("press", x.press(0), 3);
        // As they lie: A, then C.
        Due.holds("A", Due.dataIs(x, 2, 0, 20, 21));
        Due.holds("A", Due.dataIs(x, 2, 1, 22));
        Due.holds("C", Due.dataIs(x, 2, 2, 40));
        Due.is("nothing else", x.record(0, 2, 3, 0), CountKeyStore.NONE);
        for (int k = 0; k < 3; k++) {
            Due.is("number", x.record(0, 2, k, 2), k + 1);
        }
        Due.holds("the list", Due.dataIs(x, 1, 0, 'A', 32, 32, 32, 32, 32, 32, 32, 1, 1, 0, 2,
                'C', 32, 32, 32, 32, 32, 32, 32, 1, 3, 0, 1, 'Z', 32, 32, 32, 32, 32, 32, 32, 0, 0, 0, 0));
        holds(x, "A", 1, 3, 20);
        holds(x, "C", 1, 1, 40);
        holds(x, "Z", 1, 0, 0);
        Due.is("again", x.press(0), 3);
        add(x, "D", 1, 1, 50);
        Due.is("behind the last", x.record(0, 2, 3, 200), 50);
    }

    private static void pressingOverTracks() {
        CountKeyStore x = with(5, 200, 3);
        add(x, "A", 200, 3, 0);
        add(x, "B", 200, 9, 50);
        add(x, "C", 200, 7, 100);
        Due.is("track 5 of the unit has one of C", x.record(0, 5, 0, 4), 200);
        Due.is("drop", x.drop(0, 0), 2);
        Due.is("press", x.press(0), 6);
        Due.is("B begins", x.record(0, 2, 0, 200), 50);
        Due.is("the head is that of its track", x.record(0, 3, 0, 1), 3);
        Due.is("B ends", x.record(0, 3, 0, 200), 56);
        Due.is("C begins", x.record(0, 3, 1, 200), 100);
        Due.is("C ends, on the same track", x.record(0, 4, 1, 200), 106);
        Due.is("cylinder", x.record(0, 4, 1, 0), 1);
        Due.is("head", x.record(0, 4, 1, 1), 0);
        Due.is("track 5 is empty", x.record(0, 5, 0, 0), CountKeyStore.NONE);
        holds(x, "B", 200, 9, 50);
        holds(x, "C", 200, 7, 100);
    }

    private static void fullLibrary() {
        CountKeyStore x = with(2, 200, 3);
        int h = Due.open(x, "LIB", 1);
        for (int i = 0; i < 6; i++) {
            Due.is("put", Due.put(x, h, Due.row(200, i)), 1);
        }
        Due.is("no room", Due.put(x, h, Due.row(200, 6)), CountKeyStore.FULL);
        Due.is("stow", Due.stow(x, h, "A"), 1);
        x.close(h);
        h = Due.open(x, "LIB", 1);
        Due.is("no room", Due.put(x, h, Due.row(200, 6)), CountKeyStore.FULL);
        Due.is("nothing was put", Due.stow(x, h, "B"), 2);
        Due.fill(x, "LIB");
        Due.is("extend", x.extend(1), 3);
        Due.is("put", Due.put(x, h, Due.row(200, 6)), 1);
        Due.is("stow", Due.stow(x, h, "C"), 3);
        x.close(h);
        holds(x, "A", 200, 6, 0);
        holds(x, "C", 200, 1, 6);
        x.drop(0, 0);
        Due.is("press", x.press(0), 1);
        h = Due.open(x, "LIB", 1);
        Due.is("there is room again", Due.put(x, h, Due.row(200, 7)), 1);
        Due.is("stow", Due.stow(x, h, "D"), 3);
        x.close(h);
        Due.is("on the first track for blocks", x.record(0, 2, 1, 200), 7);
    }

    private static void pressedMarks() {
        CountKeyStore x = with(2, 1, 1);
        add(x, "A", 1, 2, 10);
        add(x, "B", 1, 3, 20);
        x.spoil(0, 2, 0);
        x.spoil(0, 2, 3);
        x.drop(0, 0);
        Due.is("press", x.press(0), 3);
        for (int k = 0; k < 3; k++) {
            Due.is("the block", x.record(0, 2, k, 200), 20 + k);
            Due.is("its mark", x.record(0, 2, k, 6), k == 1 ? 1 : 0);
        }
    }
}
