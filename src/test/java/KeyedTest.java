/** Promises 24 and 25: records kept by keys near a home. */
public final class KeyedTest {
    public static void main(String[] args) {
        states();
        lengths();
        keeping();
        homes();
        longKeys();
        aroundTheCircle();
        fewTracks();
        spoiled();
        withoutData();
        counted();
        Due.settle();
    }

    private static CountKeyStore with(int tracks, int a, int b) {
        CountKeyStore x = new CountKeyStore();
        Due.is("allocate", Due.allocate(x, "D", 3, tracks, a, b), 0);
        Due.is("open", Due.open(x, "D", 2), 0);
        return x;
    }

    private static int keep(CountKeyStore x, int h, int... bytes) {
        Due.fill(x, bytes);
        int answer = x.putKeyed(h);
        Due.is("count(3)", x.count(3), 0);
        return answer;
    }

    private static int find(CountKeyStore x, int h, int... key) {
        Due.fill(x, key);
        int answer = x.getKeyed(h);
        Due.is("count(3)", x.count(3), 0);
        return answer;
    }

    private static void states() {
        CountKeyStore x = with(2, 1, 1);
        for (int h : new int[] {-1, 1, 3, 4, Integer.MAX_VALUE, Integer.MIN_VALUE}) {
            Due.is("putKeyed", keep(x, h, 1, 2), CountKeyStore.STATE);
            Due.is("getKeyed", find(x, h, 1), CountKeyStore.STATE);
        }
        Due.allocate(x, "F", 0, 1, 1, 1);
        Due.open(x, "F", 2);
        Due.is("not DIRECT", keep(x, 1, 1, 2), CountKeyStore.STATE);
        Due.is("not DIRECT", find(x, 1, 1), CountKeyStore.STATE);
        Due.is("keep", keep(x, 0, 1, 2), 2);
        x.close(0);
        Due.open(x, "D", 0);
        Due.is("open to get", keep(x, 0, 1, 2), CountKeyStore.STATE);
        Due.is("open to get", find(x, 0, 1), 1);
        Due.is("OUT", x.out(0), 2);
    }

    private static void lengths() {
        CountKeyStore x = with(2, 2, 3);
        Due.is("4", keep(x, 0, 1, 2, 3, 4), CountKeyStore.LENGTH);
        Due.is("6", keep(x, 0, 1, 2, 3, 4, 5, 6), CountKeyStore.LENGTH);
        Due.is("none", keep(x, 0), CountKeyStore.LENGTH);
        Due.is("5", keep(x, 0, 1, 2, 3, 4, 5), 2);
        Due.is("1", find(x, 0, 1), CountKeyStore.LENGTH);
        Due.is("3", find(x, 0, 1, 2, 3), CountKeyStore.LENGTH);
        Due.is("none", find(x, 0), CountKeyStore.LENGTH);
        Due.is("2", find(x, 0, 1, 2), 3);
        Due.holds("OUT", Due.outIs(x, 3, 4, 5));
    }

    private static void keeping() {
        CountKeyStore x = with(1, 1, 2);
        Due.is("keep", keep(x, 0, 200, 10, 11), 2);
        Due.is("keep", keep(x, 0, 7, 20, 21), 2);
        Due.is("again", keep(x, 0, 200, 30, 31), 1);
        Due.is("find", find(x, 0, 200), 2);
        Due.holds("OUT", Due.outIs(x, 30, 31));
        Due.is("find", find(x, 0, 7), 2);
        Due.holds("OUT", Due.outIs(x, 20, 21));
        Due.is("none such", find(x, 0, 8), CountKeyStore.NONE);
        Due.holds("OUT stays", Due.outIs(x, 20, 21));
        Due.holds("the key", Due.keyIs(x, 0, 1, 0, 200));
        Due.holds("the data", Due.dataIs(x, 1, 0, 30, 31));
        Due.is("number", x.record(0, 1, 0, 2), 1);
        Due.is("number", x.record(0, 1, 1, 2), 2);
        Due.is("head", x.record(0, 1, 1, 1), 1);
        Due.is("cylinder", x.record(0, 1, 1, 0), 0);
        Due.is("no third", x.record(0, 1, 2, 2), CountKeyStore.NONE);
    }

    private static void homes() {
        CountKeyStore x = with(7, 2, 0);
        // 256 + 2 is 6 modulo 7: track 6 of the set, which is track 7 of the unit.
        Due.is("keep", keep(x, 0, 1, 2), 2);
        Due.holds("the key", Due.keyIs(x, 0, 7, 0, 1, 2));
        Due.is("cylinder", x.record(0, 7, 0, 0), 1);
        Due.is("head", x.record(0, 7, 0, 1), 3);
        // 65535 is 1 modulo 7.
        Due.is("keep", keep(x, 0, 255, 255), 2);
        Due.holds("the key", Due.keyIs(x, 0, 2, 0, 255, 255));
    }

    private static void longKeys() {
        // Eight bytes of 255: 2 to the 64 less 1 is 0 modulo 5 and 15 modulo 79.
        CountKeyStore x = with(5, 8, 0);
        Due.is("keep", keep(x, 0, 255, 255, 255, 255, 255, 255, 255, 255), 2);
        Due.is("track 0 of the set", x.record(0, 1, 0, 3), 8);
        int home = new java.math.BigInteger(1, new byte[] {-128, 0, 0, 0, 0, 0, 0, 1})
                .mod(java.math.BigInteger.valueOf(79)).intValue();
        x = with(79, 8, 0);
        Due.is("keep", keep(x, 0, 128, 0, 0, 0, 0, 0, 0, 1), 2);
        Due.is("its home", x.record(0, 1 + home, 0, 3), 8);
        Due.is("find", find(x, 0, 128, 0, 0, 0, 0, 0, 0, 1), 0);
        Due.is("another", find(x, 0, 128, 0, 0, 0, 0, 0, 0, 2), CountKeyStore.NONE);
    }

    private static void aroundTheCircle() {
        // 431 places a record: three of them a track, twelve on the four that are looked at.
        CountKeyStore x = with(6, 1, 400);
        for (int i = 0; i < 12; i++) {
            int[] record = Due.row(401, i);
            record[0] = 4 + 6 * i;
            Due.is("keep " + i, keep(x, 0, record), 2);
        }
        int[] tracks = {5, 6, 1, 2};
        for (int i = 0; i < 12; i++) {
            Due.holds("the key", Due.keyIs(x, 0, tracks[i / 3], i % 3, 4 + 6 * i));
            Due.is("the number", x.record(0, tracks[i / 3], i % 3, 2), i % 3 + 1);
        }
        int[] record = Due.row(401, 99);
        record[0] = 4 + 6 * 12;
        Due.is("no room", keep(x, 0, record), CountKeyStore.FULL);
        Due.is("nothing on the fifth", x.record(0, 3, 0, 3), CountKeyStore.NONE);
        Due.is("none such", find(x, 0, 4 + 6 * 12), CountKeyStore.NONE);
        Due.is("the last", find(x, 0, 4 + 6 * 11), 400);
        record[0] = 4 + 6 * 11;
        Due.is("it is changed where it is", keep(x, 0, record), 1);
        Due.is("find", find(x, 0, 4 + 6 * 11), 400);
        Due.is("OUT", x.out(0), 100);
        record[0] = 3;
        Due.is("another home", keep(x, 0, record), 2);
        Due.holds("the key", Due.keyIs(x, 0, 4, 0, 3));
    }

    private static void fewTracks() {
        CountKeyStore x = with(2, 1, 400);
        for (int i = 0; i < 6; i++) {
            int[] record = Due.row(401, i);
            record[0] = 1 + 2 * i;
            Due.is("keep " + i, keep(x, 0, record), 2);
        }
        Due.holds("its home", Due.keyIs(x, 0, 2, 2, 5));
        Due.holds("the other", Due.keyIs(x, 0, 1, 0, 7));
        int[] record = Due.row(401, 8);
        Due.is("each once", keep(x, 0, record), CountKeyStore.FULL);
        Due.is("find", find(x, 0, 11), 400);
    }

    private static void spoiled() {
        CountKeyStore x = with(1, 1, 1);
        keep(x, 0, 5, 50);
        keep(x, 0, 6, 60);
        find(x, 0, 6);
        x.spoil(0, 1, 0);
        Due.is("spoiled", find(x, 0, 5), CountKeyStore.CHECK);
        Due.is("OUT stays", x.out(0), 60);
        Due.is("keep", keep(x, 0, 5, 51), 1);
        Due.is("it is whole", x.record(0, 1, 0, 6), 0);
        Due.is("find", find(x, 0, 5), 1);
        Due.is("OUT", x.out(0), 51);
    }

    private static void withoutData() {
        CountKeyStore x = with(1, 1, 0);
        // 31 places a record: 47 of them a track.
        for (int i = 0; i < 47; i++) {
            Due.is("keep", keep(x, 0, i), 2);
        }
        Due.is("no room", keep(x, 0, 47), CountKeyStore.FULL);
        Due.is("the last", x.record(0, 1, 46, 2), 47);
        x.spoil(0, 1, 3);
        Due.is("spoiled", find(x, 0, 3), CountKeyStore.CHECK);
        Due.is("keep", keep(x, 0, 3), 1);
        Due.is("find", find(x, 0, 3), 0);
        Due.is("OUT is empty", x.count(4), 0);
    }

    private static void counted() {
        CountKeyStore x = with(1, 1, 1);
        keep(x, 0, 1, 1);
        keep(x, 0, 1, 2);
        keep(x, 0, 1);
        find(x, 0, 1);
        find(x, 0, 2);
        find(x, 0, 2, 2);
        x.spoil(0, 1, 0);
        find(x, 0, 1);
        Due.is("three", x.opened(0, 2), 3);
        Due.is("opened(0, 3)", x.opened(0, 3), 0);
        x.close(0);
        Due.open(x, "D", 2);
        Due.is("none", x.opened(0, 2), 0);
        Due.is("it is there still", keep(x, 0, 1, 3), 1);
    }
}
