/**
 * The boundary cases of records kept by keys: DIRECT in terms III and promises 24 and 25; above each
 * test stands the sentence that it asks for.
 */
public final class EdgeKeyedTest extends Rig {
    public static void main(String[] args) {
        putState();
        putLength();
        getState();
        getLength();
        shortestAndLongest();
        homeIsModulo();
        firstByteHighest();
        circleOfOne();
        circleOfTwo();
        circleOfThree();
        circleOfFour();
        circleOfFive();
        circleOfExtents();
        roomToTheLastPlace();
        numbersOnATrack();
        fullChangesNothing();
        thereWithoutRoom();
        getNone();
        getCheck();
        putMakesWhole();
        withoutData();
        keptWhenClosed();
        Due.settle();
    }

    private static CountKeyStore with(int tracks, int a, int b) {
        CountKeyStore x = new CountKeyStore();
        Due.is("allocate", Due.allocate(x, "D", DIRECT, tracks, a, b), 0);
        Due.is("open", Due.open(x, "D", TO_CHANGE), 0);
        return x;
    }

    private static int keep(CountKeyStore x, int... bytes) {
        Due.fill(x, bytes);
        return x.putKeyed(0);
    }

    private static int find(CountKeyStore x, int... key) {
        Due.fill(x, key);
        return x.getKeyed(0);
    }

    /** A record of 1 byte of a key and 400 of data. */
    private static int[] large(int key) {
        int[] bytes = Due.row(401, key);
        bytes[0] = key;
        return bytes;
    }

    /** So many records of one home, three a track, on a circle of tracks, and then no more. */
    private static void circle(int tracks, int home, int... due) {
        CountKeyStore x = with(tracks, 1, 400);
        for (int i = 0; i < 3 * due.length; i++) {
            Due.is("keep " + i, keep(x, large(home + tracks * i)), 2);
            Due.is("its track", x.record(0, 1 + due[i / 3], i % 3, 100), home + tracks * i);
            Due.is("the next is empty", x.record(0, 1 + due[i / 3], i % 3 + 1, 100), NONE);
        }
        int more = home + tracks * 3 * due.length;
        Due.is("no more", keep(x, large(more)), FULL);
        Due.is("none such", find(x, more), NONE);
        for (int i = 0; i < 3 * due.length; i++) {
            Due.is("find " + i, find(x, home + tracks * i), 400);
            Due.is("OUT", x.out(0), home + tracks * i + 1 & 255);
        }
        int records = 0;
        for (int t = 1; t <= tracks; t++) {
            records += x.record(0, t, 2, 3) == 1 ? 3 : 0;
        }
        Due.is("each once", records, 3 * due.length);
    }

    // "STATE: no such h, not DIRECT, not opened to change" (of putKeyed)
    private static void putState() {
        CountKeyStore x = with(1, 1, 1);
        for (int h : new int[] {-1, 1, 3, 4, MIN, MAX}) {
            Due.fill(x, 1, 1);
            Due.is("putKeyed " + h, x.putKeyed(h), STATE);
        }
        x.close(0);
        Due.is("closed", keep(x, 1, 1), STATE);
        Due.open(x, "D", TO_GET);
        Due.is("to get", keep(x, 1, 1), STATE);
        Due.is("ahead of LENGTH", keep(x, 1), STATE);
        x.close(0);
        for (int kind : new int[] {FIXED, VARIABLE, SPANNED}) {
            Due.allocate(x, "K" + kind, kind, 1, kind == FIXED ? 1 : 0, 8);
            Due.open(x, "K" + kind, TO_CHANGE);
            Due.is("kind " + kind, keep(x, 1, 1), STATE);
            x.close(0);
        }
        Due.is("nothing is kept", x.record(0, 1, 0, 3), NONE);
    }

    // "a bytes of a KEY and b of DATA ... LENGTH"
    private static void putLength() {
        int[][] sizes = {{1, 0}, {1, 1}, {8, 0}, {8, 400}, {3, 5}};
        for (int[] size : sizes) {
            CountKeyStore x = with(2, size[0], size[1]);
            int n = size[0] + size[1];
            Due.is("one less", keep(x, Due.row(n - 1, 1)), LENGTH);
            Due.is("one more", keep(x, Due.row(n + 1, 1)), LENGTH);
            Due.is("none", keep(x), LENGTH);
            Due.is("nothing is kept", x.opened(0, 2), 0);
            Due.is("just so", keep(x, Due.row(n, 1)), 2);
            Due.is("again", keep(x, Due.row(n, 1)), 1);
        }
    }

    // "STATE: no such h, not DIRECT" (of getKeyed)
    private static void getState() {
        CountKeyStore x = with(1, 1, 1);
        keep(x, 1, 50);
        for (int h : new int[] {-1, 1, 3, 4, MIN, MAX}) {
            Due.fill(x, 1);
            Due.is("getKeyed " + h, x.getKeyed(h), STATE);
        }
        Due.is("to change", find(x, 1), 1);
        x.close(0);
        Due.is("closed", find(x, 1), STATE);
        Due.open(x, "D", TO_GET);
        Due.is("to get", find(x, 1), 1);
        Due.holds("OUT", Due.outIs(x, 50));
        x.close(0);
        for (int kind : new int[] {FIXED, VARIABLE, SPANNED, LIBRARY}) {
            Due.allocate(x, "K" + kind, kind, 2, kind == FIXED || kind == LIBRARY ? 1 : 0, 8);
            Due.open(x, "K" + kind, TO_GET);
            Due.is("kind " + kind, find(x, 1), STATE);
            x.close(0);
        }
        Due.holds("OUT stays", Due.outIs(x, 50));
    }

    // "LENGTH: not a bytes"
    private static void getLength() {
        for (int a : new int[] {1, 2, 8}) {
            CountKeyStore x = with(2, a, 1);
            keep(x, Due.row(a + 1, 1));
            Due.is("find", find(x, Due.row(a, 1)), 1);
            Due.is("one less", find(x, Due.row(a - 1, 1)), LENGTH);
            Due.is("one more", find(x, Due.row(a + 1, 1)), LENGTH);
            Due.is("none", find(x), LENGTH);
            Due.holds("OUT stays", Due.outIs(x, a + 1));
        }
    }

    // "3 DIRECT: a 1 .. 8, b 0 .. 400" and "The DATA of the RECORD with the KEY ... come to OUT: b."
    private static void shortestAndLongest() {
        int[][] sizes = {{1, 0}, {1, 400}, {8, 0}, {8, 400}};
        for (int[] size : sizes) {
            CountKeyStore x = with(1, size[0], size[1]);
            Due.is("keep", keep(x, Due.row(size[0] + size[1], 200)), 2);
            Due.holds("its key", Due.keyIs(x, 0, 1, 0, Due.row(size[0], 200)));
            Due.is("its data", x.record(0, 1, 0, 4), size[1]);
            Due.is("find", find(x, Due.row(size[0], 200)), size[1]);
            Due.is("count(4)", x.count(4), size[1]);
            Due.is("the last byte", x.out(size[1] - 1), size[1] == 0 ? NONE : 200 + size[0] + size[1] - 1 & 255);
        }
    }

    // "its home is the TRACK of the set that is the KEY (as a number, ...) modulo how many there are"
    private static void homeIsModulo() {
        for (int key = 0; key < 256; key += 17) {
            CountKeyStore x = with(7, 1, 0);
            keep(x, key);
            for (int t = 0; t < 7; t++) {
                Due.is("track " + t, x.record(0, 1 + t, 0, 100), t == key % 7 ? key : NONE);
            }
        }
        CountKeyStore x = with(79, 1, 0);
        for (int key : new int[] {0, 78, 79, 157, 158, 255}) {
            keep(x, key);
        }
        Due.is("0", x.record(0, 1, 0, 100), 0);
        Due.is("79", x.record(0, 1, 1, 100), 79);
        Due.is("158", x.record(0, 1, 2, 100), 158);
        Due.is("78", x.record(0, 79, 0, 100), 78);
        Due.is("157", x.record(0, 79, 1, 100), 157);
        Due.is("255", x.record(0, 1 + 255 - 3 * 79, 0, 100), 255);
    }

    // "(as a number, the first byte highest)"
    private static void firstByteHighest() {
        CountKeyStore x = with(10, 2, 0);
        // 256 is 6 modulo 10, and 1 is 1.
        keep(x, 1, 0);
        keep(x, 0, 1);
        Due.holds("256", Due.keyIs(x, 0, 7, 0, 1, 0));
        Due.holds("1", Due.keyIs(x, 0, 2, 0, 0, 1));
        // Eight bytes are a number of 64 bits, without a sign.
        int[][] keys = {{255, 255, 255, 255, 255, 255, 255, 255}, {128, 0, 0, 0, 0, 0, 0, 0}, {0, 0, 0, 0, 128, 0, 0, 0},
            {255, 0, 0, 0, 0, 0, 0, 1}};
        for (int tracks : new int[] {3, 10, 79}) {
            for (int[] key : keys) {
                byte[] bytes = new byte[8];
                for (int i = 0; i < 8; i++) {
                    bytes[i] = (byte) key[i];
                }
                int home = new java.math.BigInteger(1, bytes).mod(java.math.BigInteger.valueOf(tracks)).intValue();
                x = with(tracks, 8, 0);
                Due.is("keep", keep(x, key), 2);
                Due.holds("its home", Due.keyIs(x, 0, 1 + home, 0, key));
            }
        }
    }

    // "looked at are this and the next 3 ones (in a circle, each once), in order."
    private static void circleOfOne() {
        circle(1, 0, 0);
    }

    private static void circleOfTwo() {
        circle(2, 0, 0, 1);
        circle(2, 1, 1, 0);
    }

    private static void circleOfThree() {
        circle(3, 0, 0, 1, 2);
        circle(3, 1, 1, 2, 0);
        circle(3, 2, 2, 0, 1);
    }

    private static void circleOfFour() {
        circle(4, 0, 0, 1, 2, 3);
        circle(4, 3, 3, 0, 1, 2);
    }

    // The same, where there is one more than are looked at.
    private static void circleOfFive() {
        circle(5, 0, 0, 1, 2, 3);
        circle(5, 1, 1, 2, 3, 4);
        circle(5, 2, 2, 3, 4, 0);
        circle(5, 4, 4, 0, 1, 2);
        // A RECORD with that KEY is not seen where it is not looked at.
        CountKeyStore x = with(5, 1, 400);
        for (int i = 0; i < 12; i++) {
            keep(x, large(1 + 5 * i));
        }
        Due.is("track 0 of the set is empty", x.record(0, 1, 0, 3), NONE);
        Due.is("another home", keep(x, large(0)), 2);
        Due.is("on it", x.record(0, 1, 0, 100), 0);
        Due.is("a home of which three are full", keep(x, large(2)), 2);
        Due.is("on the fourth of them", x.record(0, 1, 1, 100), 2);
    }

    // The same, over EXTENTS.
    private static void circleOfExtents() {
        CountKeyStore x = new CountKeyStore();
        Due.allocate(x, "P", FIXED, 1, 1, 1);
        Due.allocate(x, "Q", FIXED, 1, 1, 1);
        Due.fill(x, "P");
        x.scratch();
        // Tracks 1, 3, 4, 5: the cylinder and head are those of each.
        Due.allocate(x, "D", DIRECT, 4, 1, 0);
        Due.open(x, "D", TO_CHANGE);
        int[] tracks = {1, 3, 4, 5};
        for (int key = 0; key < 4; key++) {
            Due.is("keep", keep(x, key), 2);
            Due.is("its key", x.record(0, tracks[key], 0, 100), key);
            Due.is("its cylinder", x.record(0, tracks[key], 0, 0), tracks[key] / 4);
            Due.is("its head", x.record(0, tracks[key], 0, 1), tracks[key] % 4);
            Due.is("its number", x.record(0, tracks[key], 0, 2), 1);
        }
        Due.is("Q's track", x.record(0, 2, 0, 3), NONE);
    }

    // "a new one behind the others on the first of them with room"
    private static void roomToTheLastPlace() {
        // 8 and 256 take 294 places: five of them are 1470.
        CountKeyStore x = with(2, 8, 256);
        for (int i = 0; i < 6; i++) {
            int[] bytes = new int[264];
            bytes[7] = 2 * i;
            Due.is("keep", keep(x, bytes), 2);
        }
        Due.is("the fifth", x.record(0, 1, 4, 5), 30 + 4 * 294);
        Due.is("the sixth is on the next", x.record(0, 2, 0, 107), 10);
        // One byte more: four of them.
        x = with(2, 8, 257);
        for (int i = 0; i < 5; i++) {
            int[] bytes = new int[265];
            bytes[7] = 2 * i;
            Due.is("keep", keep(x, bytes), 2);
        }
        Due.is("no fifth", x.record(0, 1, 4, 5), NONE);
        Due.is("it is on the next", x.record(0, 2, 0, 107), 8);
    }

    // "(its number 1 more than RECORDS there were)"
    private static void numbersOnATrack() {
        CountKeyStore x = with(1, 1, 0);
        for (int i = 0; i < 47; i++) {
            Due.is("keep", keep(x, 255 - i), 2);
        }
        for (int i = 0; i < 47; i++) {
            Due.is("its number", x.record(0, 1, i, 2), i + 1);
            Due.is("its key", x.record(0, 1, i, 100), 255 - i);
        }
        // 47 times 31 are 1457: 13 are left.
        Due.is("no more", keep(x, 1), FULL);
    }

    // "FULL": what is there stays, and nothing comes
    private static void fullChangesNothing() {
        CountKeyStore x = with(1, 1, 400);
        for (int i = 1; i <= 3; i++) {
            keep(x, large(i));
        }
        find(x, 2);
        Due.is("FULL", keep(x, large(4)), FULL);
        Due.is("no fourth", x.record(0, 1, 3, 3), NONE);
        Due.is("records", x.opened(0, 2), 4);
        Due.is("OUT stays", x.out(0), 3);
        for (int i = 1; i <= 3; i++) {
            Due.is("find", find(x, i), 400);
        }
    }

    // "the RECORD with that KEY on the TRACKS looked at has these DATA ...: 1 if it was there, else 2."
    private static void thereWithoutRoom() {
        CountKeyStore x = with(2, 1, 400);
        for (int i = 0; i < 6; i++) {
            Due.is("keep", keep(x, large(2 * i)), 2);
        }
        for (int i = 0; i < 6; i++) {
            int[] bytes = large(2 * i);
            bytes[1] = 100 + i;
            bytes[400] = 200 + i;
            Due.is("it was there", keep(x, bytes), 1);
            Due.is("find", find(x, 2 * i), 400);
            Due.is("OUT", x.out(0), 100 + i);
            Due.is("OUT", x.out(399), 200 + i);
            Due.is("where it was", x.record(0, 1 + i / 3, i % 3, 200), 100 + i);
            Due.is("its number", x.record(0, 1 + i / 3, i % 3, 2), i % 3 + 1);
        }
        Due.is("no more", x.record(0, 1, 3, 3), NONE);
    }

    // "NONE" (of getKeyed)
    private static void getNone() {
        CountKeyStore x = with(3, 2, 1);
        Due.is("of none", find(x, 0, 0), NONE);
        keep(x, 0, 3, 50);
        Due.is("find", find(x, 0, 3), 1);
        Due.is("another in the last byte", find(x, 0, 4), NONE);
        Due.is("another in the first", find(x, 1, 3), NONE);
        Due.is("another of that home", find(x, 0, 6), NONE);
        Due.holds("OUT stays", Due.outIs(x, 50));
        Due.is("records", x.opened(0, 2), 2);
    }

    // "CHECK: it is SPOILED." (of getKeyed)
    private static void getCheck() {
        CountKeyStore x = with(1, 1, 1);
        keep(x, 1, 50);
        keep(x, 2, 60);
        find(x, 1);
        x.spoil(0, 1, 1);
        Due.is("CHECK", find(x, 2), CHECK);
        Due.holds("OUT stays", Due.outIs(x, 50));
        Due.is("records", x.opened(0, 2), 3);
        Due.is("the other is not", find(x, 1), 1);
        Due.is("another KEY behind it is NONE", find(x, 3), NONE);
        Due.is("CHECK again", find(x, 2), CHECK);
    }

    // "what writes its DATA makes it whole again." (putKeyed)
    private static void putMakesWhole() {
        CountKeyStore x = with(1, 1, 1);
        keep(x, 1, 50);
        keep(x, 2, 60);
        x.spoil(0, 1, 0);
        x.spoil(0, 1, 1);
        Due.is("keep", keep(x, 2, 61), 1);
        Due.is("whole", x.record(0, 1, 1, 6), 0);
        Due.is("the other is not", x.record(0, 1, 0, 6), 1);
        Due.is("find", find(x, 2), 1);
        Due.holds("OUT", Due.outIs(x, 61));
        Due.is("keep", keep(x, 3, 70), 2);
        Due.is("a new one is whole", x.record(0, 1, 2, 6), 0);
    }

    // b 0: there are no DATA to read or write
    private static void withoutData() {
        CountKeyStore x = with(1, 1, 0);
        Due.is("keep", keep(x, 5), 2);
        Due.is("again", keep(x, 5), 1);
        Due.is("one record", x.record(0, 1, 1, 3), NONE);
        Due.is("find", find(x, 5), 0);
        Due.is("OUT is empty", x.count(4), 0);
        Due.is("none such", find(x, 6), NONE);
        x.spoil(0, 1, 0);
        Due.is("CHECK", find(x, 5), CHECK);
        Due.is("keep", keep(x, 5), 1);
        Due.is("whole", find(x, 5), 0);
    }

    // What is kept stays when it is closed, and when it is opened again, to get or to change.
    private static void keptWhenClosed() {
        CountKeyStore x = with(2, 1, 1);
        keep(x, 1, 50);
        x.close(0);
        for (int mode = TO_GET; mode <= TO_CHANGE; mode += TO_CHANGE) {
            Due.is("open", Due.open(x, "D", mode), 0);
            Due.is("find", find(x, 1), 1);
            Due.holds("OUT", Due.outIs(x, 50));
            x.close(0);
        }
        Due.is("its record", x.record(0, 2, 0, 200), 50);
    }
}
