/** Promises 14 to 18: data sets that come, grow and go, and the table of them on track 0. */
public final class VolumeTest {
    public static void main(String[] args) {
        ranges();
        namesAndNumbers();
        runsOfTracks();
        allAtOnce();
        tooFewTracks();
        growing();
        growingByRuns();
        whatMayNotGrow();
        scratching();
        theTable();
        theTableIsWrittenAnew();
        tracksComeEmpty();
        oldExtentsAreForgotten();
        told();
        Due.settle();
    }

    private static void allows(boolean good, int kind, int tracks, int a, int b) {
        CountKeyStore x = new CountKeyStore();
        Due.is("allocate " + kind + " " + tracks + " " + a + " " + b, Due.allocate(x, "A", kind, tracks, a, b),
                good ? 0 : CountKeyStore.RANGE);
        Due.is("count(1)", x.count(1), good ? 1 : 0);
        Due.is("count(0)", x.count(0), good ? 79 - tracks : 79);
        Due.is("count(3)", x.count(3), 0);
    }

    private static void ranges() {
        for (int kind : new int[] {0, 4}) {
            allows(true, kind, 2, 1, 1);
            allows(true, kind, 79, 60, 20);
            allows(true, kind, 2, 200, 6);
            allows(false, kind, 2, 200, 7);
            allows(false, kind, 2, 61, 20);
            allows(false, kind, 2, 201, 1);
            allows(false, kind, 2, 0, 1);
            allows(false, kind, 2, 1, 0);
            allows(false, kind, 2, 1, 21);
            allows(false, kind, 2, Integer.MAX_VALUE, Integer.MAX_VALUE);
            allows(false, kind, 2, -1, -1);
            allows(kind == 0, kind, 1, 1, 1);
        }
        for (int kind : new int[] {1, 2}) {
            allows(true, kind, 1, 0, 8);
            allows(true, kind, 1, 0, 1200);
            allows(false, kind, 1, 0, 7);
            allows(false, kind, 1, 0, 1201);
            allows(false, kind, 1, 1, 8);
            allows(false, kind, 1, -1, 8);
        }
        allows(true, 3, 1, 1, 0);
        allows(true, 3, 1, 8, 400);
        allows(false, 3, 1, 0, 0);
        allows(false, 3, 1, 9, 0);
        allows(false, 3, 1, 1, -1);
        allows(false, 3, 1, 1, 401);
        allows(false, 5, 1, 1, 1);
        allows(false, -1, 1, 1, 1);
        allows(false, 0, 0, 1, 1);
        allows(false, 0, 80, 1, 1);
        allows(false, 0, -1, 1, 1);
        allows(false, 4, 80, 1, 1);
    }

    private static void namesAndNumbers() {
        CountKeyStore x = new CountKeyStore();
        for (int d = 0; d < 10; d++) {
            Due.is("allocate", Due.allocate(x, "SET" + d, 0, 1, 1, 1), d);
        }
        Due.is("TWICE goes ahead of FULL", Due.allocate(x, "SET3", 0, 1, 1, 1), CountKeyStore.TWICE);
        Due.is("RANGE goes ahead of TWICE", Due.allocate(x, "SET3", 0, 0, 1, 1), CountKeyStore.RANGE);
        Due.is("ten are there", Due.allocate(x, "SETX", 0, 1, 1, 1), CountKeyStore.FULL);
        Due.fill(x, "SET4");
        Due.is("scratch", x.scratch(), 4);
        Due.fill(x, "SET2");
        Due.is("scratch", x.scratch(), 2);
        Due.is("the lowest is taken", Due.allocate(x, "NEW", 0, 1, 1, 1), 2);
        Due.is("its track too", x.dataSet(2, 20), 3);
        Due.is("the next", Due.allocate(x, "NEWER", 0, 1, 1, 1), 4);
        x = new CountKeyStore();
        Due.is("eight bytes", Due.allocate(x, "ABCDEFGH", 0, 1, 1, 1), 0);
        Due.is("the ninth does not count", Due.allocate(x, "ABCDEFGHI", 0, 1, 1, 1), CountKeyStore.TWICE);
        Due.is("no name at all", Due.allocate(x, "", 0, 1, 1, 1), 1);
        Due.is("which is 32s", Due.allocate(x, "        ", 0, 1, 1, 1), CountKeyStore.TWICE);
        Due.is("a 0 is no 32", Due.allocate(x, "\0", 0, 1, 1, 1), 2);
        Due.is("dataSet(1, 17)", x.dataSet(1, 17), 32);
        Due.is("dataSet(2, 10)", x.dataSet(2, 10), 0);
        Due.is("dataSet(2, 11)", x.dataSet(2, 11), 32);
        Due.fill(x, 255, 254);
        Due.is("bytes above 127", x.allocate(0, 1, 1, 1, false), 3);
        Due.is("dataSet(3, 10)", x.dataSet(3, 10), 255);
    }

    /** Sets A .. on the tracks from 1 on, with so many each; those at odd places are scratched again. */
    private static CountKeyStore holes(int... runs) {
        CountKeyStore x = new CountKeyStore();
        for (int i = 0; i < runs.length; i++) {
            Due.is("allocate", Due.allocate(x, "S" + i, 0, runs[i], 1, 1), i);
        }
        for (int i = 1; i < runs.length; i += 2) {
            Due.fill(x, "S" + i);
            Due.is("scratch", x.scratch(), i);
        }
        return x;
    }

    private static void extents(CountKeyStore x, int d, int... due) {
        Due.is("extents", x.dataSet(d, 4), due.length / 2);
        int tracks = 0;
        for (int i = 0; i < due.length; i++) {
            Due.is("extent " + i, x.dataSet(d, 20 + i), due[i]);
            tracks += i % 2 == 1 ? due[i] : 0;
        }
        Due.is("behind the extents", x.dataSet(d, 20 + due.length), CountKeyStore.NONE);
        Due.is("tracks", x.dataSet(d, 3), tracks);
    }

    private static void runsOfTracks() {
        // Free: 2 .. 3, 6, 8 .. 10, 12 .. 79.
        CountKeyStore x = holes(1, 2, 2, 1, 1, 3, 1);
        Due.is("count(0)", x.count(0), 74);
        Due.is("five", Due.allocate(x, "A", 0, 5, 1, 1), 1);
        extents(x, 1, 2, 2, 6, 1, 8, 2);
        Due.is("count(0)", x.count(0), 69);
        Due.is("one", Due.allocate(x, "B", 0, 1, 1, 1), 3);
        extents(x, 3, 10, 1);
        x = holes(1, 2, 2, 1, 1, 3, 1);
        Due.is("all four runs", Due.allocate(x, "A", 0, 74, 1, 1), 1);
        extents(x, 1, 2, 2, 6, 1, 8, 3, 12, 68);
        Due.is("count(0)", x.count(0), 0);
        Due.is("no more", Due.allocate(x, "B", 0, 1, 1, 1), CountKeyStore.FULL);
        // Five runs: 2, 4, 6, 8, 10 .. 79.
        x = holes(1, 1, 1, 1, 1, 1, 1, 1, 1);
        Due.is("four of them", Due.allocate(x, "A", 0, 4, 1, 1), 1);
        extents(x, 1, 2, 1, 4, 1, 6, 1, 8, 1);
        x = holes(1, 1, 1, 1, 1, 1, 1, 1, 1);
        Due.is("five of them", Due.allocate(x, "A", 0, 5, 1, 1), CountKeyStore.FULL);
        Due.is("nothing came", x.count(0), 74);
        Due.is("count(1)", x.count(1), 5);
    }

    private static void allAtOnce() {
        CountKeyStore x = new CountKeyStore();
        Due.fill(x, "A");
        Due.is("all at once", x.allocate(0, 79, 1, 1, true), 0);
        extents(x, 0, 1, 79);
        x = new CountKeyStore();
        Due.fill(x, "A");
        Due.is("two at once", x.allocate(0, 2, 1, 1, true), 0);
        extents(x, 0, 1, 2);
        x = holes(1, 2, 2, 1, 1, 3, 1);
        Due.fill(x, "A");
        Due.is("three at once", x.allocate(0, 3, 1, 1, true), 1);
        extents(x, 1, 8, 3);
        Due.fill(x, "B");
        Due.is("one at once", x.allocate(0, 1, 1, 1, true), 3);
        extents(x, 3, 2, 1);
        Due.fill(x, "C");
        Due.is("69 at once", x.allocate(0, 69, 1, 1, true), CountKeyStore.FULL);
        Due.fill(x, "C");
        Due.is("68 at once", x.allocate(0, 68, 1, 1, true), 5);
        extents(x, 5, 12, 68);
        Due.is("count(0)", x.count(0), 2);
    }

    private static void tooFewTracks() {
        CountKeyStore x = new CountKeyStore();
        Due.is("allocate", Due.allocate(x, "A", 0, 79, 1, 1), 0);
        extents(x, 0, 1, 79);
        Due.is("allocate", Due.allocate(x, "B", 0, 1, 1, 1), CountKeyStore.FULL);
        Due.fill(x, "A");
        Due.is("scratch", x.scratch(), 0);
        Due.is("allocate", Due.allocate(x, "A", 0, 78, 1, 1), 0);
        Due.is("allocate", Due.allocate(x, "B", 0, 2, 1, 1), CountKeyStore.FULL);
        Due.is("allocate", Due.allocate(x, "B", 0, 1, 1, 1), 1);
        extents(x, 1, 79, 1);
    }

    private static int extend(CountKeyStore x, String name, int tracks) {
        Due.fill(x, name);
        int answer = x.extend(tracks);
        Due.is("count(3)", x.count(3), 0);
        return answer;
    }

    private static void growing() {
        CountKeyStore x = new CountKeyStore();
        Due.allocate(x, "A", 0, 2, 1, 1);
        Due.is("right behind", extend(x, "A", 3), 5);
        extents(x, 0, 1, 5);
        Due.allocate(x, "B", 1, 1, 0, 8);
        Due.is("behind B", extend(x, "A", 2), 7);
        extents(x, 0, 1, 5, 7, 2);
        Due.is("and longer", extend(x, "A", 1), 8);
        extents(x, 0, 1, 5, 7, 3);
        Due.is("count(0)", x.count(0), 70);
        Due.is("too many", extend(x, "A", 71), CountKeyStore.FULL);
        Due.is("all of them", extend(x, "A", 70), 78);
        extents(x, 0, 1, 5, 7, 73);
        Due.is("no more", extend(x, "B", 1), CountKeyStore.FULL);
    }

    private static void growingByRuns() {
        // S0 has track 1; free: 2 .. 3, 6, 8 .. 10, 12 .. 79. The run at 2 is one of the three runs.
        CountKeyStore x = holes(1, 2, 2, 1, 1, 3, 1);
        Due.is("four runs", extend(x, "S0", 7), CountKeyStore.FULL);
        extents(x, 0, 1, 1);
        Due.is("three runs", extend(x, "S0", 6), 7);
        extents(x, 0, 1, 3, 6, 1, 8, 3);
        Due.is("one run", extend(x, "S0", 1), 8);
        extents(x, 0, 1, 3, 6, 1, 8, 3, 12, 1);
        Due.is("none is left, even right behind", extend(x, "S0", 1), CountKeyStore.FULL);
        // A run that begins right behind an extent that is not the last is a new one.
        x = new CountKeyStore();
        Due.allocate(x, "A", 0, 2, 1, 1);
        Due.allocate(x, "B", 0, 2, 1, 1);
        Due.fill(x, "A");
        x.scratch();
        Due.is("tracks 1 and 2 come last", extend(x, "B", 2), 4);
        extents(x, 1, 3, 2, 1, 2);
        Due.is("5 is not behind 2", extend(x, "B", 1), 5);
        extents(x, 1, 3, 2, 1, 2, 5, 1);
    }

    private static void whatMayNotGrow() {
        CountKeyStore x = new CountKeyStore();
        Due.allocate(x, "D", 3, 1, 1, 1);
        Due.allocate(x, "L", 4, 2, 1, 1);
        Due.is("RANGE goes ahead of NONE", extend(x, "X", 0), CountKeyStore.RANGE);
        Due.is("80", extend(x, "L", 80), CountKeyStore.RANGE);
        Due.is("-1", extend(x, "L", -1), CountKeyStore.RANGE);
        Due.is("no such set", extend(x, "X", 1), CountKeyStore.NONE);
        Due.is("a DIRECT one", extend(x, "D", 1), CountKeyStore.STATE);
        Due.is("a DIRECT one, too many", extend(x, "D", 79), CountKeyStore.STATE);
        Due.is("79", extend(x, "L", 79), CountKeyStore.FULL);
        int h = Due.open(x, "L", 1);
        Due.is("while it is open", extend(x, "L", 1), 3);
        Due.is("close", x.close(h), 1);
    }

    private static void scratching() {
        CountKeyStore x = new CountKeyStore();
        Due.fill(x, "A");
        Due.is("no such set", x.scratch(), CountKeyStore.NONE);
        Due.allocate(x, "A", 0, 2, 1, 1);
        int h = Due.open(x, "A", 0);
        Due.fill(x, "A");
        Due.is("it is open", x.scratch(), CountKeyStore.BUSY);
        Due.is("count(1)", x.count(1), 1);
        x.close(h);
        Due.fill(x, "A");
        Due.is("it is closed", x.scratch(), 0);
        Due.is("count(1)", x.count(1), 0);
        Due.is("count(0)", x.count(0), 79);
        Due.is("dataSet", x.dataSet(0, 0), CountKeyStore.NONE);
        Due.fill(x, "A");
        Due.is("open", x.open(0), CountKeyStore.NONE);
    }

    private static void theTable() {
        CountKeyStore x = holes(1, 2, 2, 1, 1, 3, 1);
        Due.allocate(x, "VAR", 1, 4, 0, 1200);
        // By number: S0, VAR, S2, S4, S6.
        int[] numbers = {1, 2, 3, 5, 7};
        for (int k = 0; k < 5; k++) {
            Due.is("cylinder", x.record(0, 0, k, 0), 0);
            Due.is("head", x.record(0, 0, k, 1), 0);
            Due.is("number", x.record(0, 0, k, 2), numbers[k]);
        }
        Due.is("no more", x.record(0, 0, 5, 0), CountKeyStore.NONE);
        Due.holds("a key", Due.keyIs(x, 0, 0, 0, 'S', '0', 32, 32, 32, 32, 32, 32));
        Due.holds("a key", Due.keyIs(x, 0, 0, 1, 'V', 'A', 'R', 32, 32, 32, 32, 32));
        Due.holds("data", Due.dataIs(x, 0, 0, 0, 0, 1, 0, 1, 1, 1, 1));
        Due.holds("data", Due.dataIs(x, 0, 1, 1, 0, 0, 4, 176, 3, 2, 2, 6, 1, 8, 1));
        extend(x, "VAR", 1);
        Due.holds("its last extent grew", Due.dataIs(x, 0, 1, 1, 0, 0, 4, 176, 3, 2, 2, 6, 1, 8, 2));
        Due.fill(x, "S0");
        x.scratch();
        Due.is("the first is VAR now", x.record(0, 0, 0, 2), 2);
        Due.is("four are left", x.record(0, 0, 4, 2), CountKeyStore.NONE);
        Due.allocate(x, "D", 3, 1, 8, 400);
        Due.holds("data", Due.dataIs(x, 0, 0, 3, 0, 8, 1, 144, 1, 1, 1));
    }

    private static void theTableIsWrittenAnew() {
        CountKeyStore x = new CountKeyStore();
        Due.allocate(x, "A", 0, 1, 1, 1);
        x.spoil(0, 0, 0);
        Due.allocate(x, "A", 0, 1, 1, 1);
        Due.is("no change", x.record(0, 0, 0, 6), 1);
        Due.allocate(x, "B", 0, 1, 1, 1);
        Due.is("a change", x.record(0, 0, 0, 6), 0);
        x.spoil(0, 0, 0);
        extend(x, "B", 1);
        Due.is("a change", x.record(0, 0, 0, 6), 0);
        x.spoil(0, 0, 0);
        Due.fill(x, "B");
        x.scratch();
        Due.is("a change", x.record(0, 0, 0, 6), 0);
    }

    private static void tracksComeEmpty() {
        CountKeyStore x = new CountKeyStore();
        Due.allocate(x, "A", 0, 2, 1, 1);
        int h = Due.open(x, "A", 1);
        Due.put(x, h, 7);
        x.close(h);
        Due.is("a block", x.record(0, 1, 0, 200), 7);
        Due.fill(x, "A");
        x.scratch();
        Due.is("it is gone", x.record(0, 1, 0, 200), CountKeyStore.NONE);
        Due.allocate(x, "B", 0, 2, 1, 1);
        h = Due.open(x, "B", 0);
        Due.is("nothing there", x.get(h), CountKeyStore.NONE);
    }

    private static void oldExtentsAreForgotten() {
        // Set 1 has had tracks 2 and 4 before; it has track 2 alone now, and track 4 is another's.
        CountKeyStore x = holes(1, 1, 1, 1, 1);
        Due.is("allocate", Due.allocate(x, "TWO", 0, 2, 1, 1), 1);
        extents(x, 1, 2, 1, 4, 1);
        Due.fill(x, "TWO");
        Due.is("scratch", x.scratch(), 1);
        Due.is("allocate", Due.allocate(x, "ONE", 0, 1, 200, 6), 1);
        extents(x, 1, 2, 1);
        Due.is("allocate", Due.allocate(x, "OTHER", 0, 1, 200, 6), 3);
        extents(x, 3, 4, 1);
        int h = Due.open(x, "OTHER", 1);
        Due.put(x, h, Due.row(200, 9));
        x.close(h);
        h = Due.open(x, "ONE", 1);
        for (int i = 0; i < 7; i++) {
            Due.is("put", Due.put(x, h, Due.row(200, i)), 1);
        }
        Due.is("no second track", Due.put(x, h, Due.row(200, 7)), CountKeyStore.FULL);
        x.close(h);
        h = Due.open(x, "ONE", 0);
        for (int i = 0; i < 7; i++) {
            Due.is("get", x.get(h), 200);
        }
        Due.is("not on into the other", x.get(h), CountKeyStore.NONE);
        x.close(h);
        x.close(Due.open(x, "ONE", 1));
        Due.is("nor is it emptied", x.record(0, 4, 0, 200), 9);
        Due.fill(x, "ONE");
        Due.is("scratch", x.scratch(), 1);
        Due.is("nor is it freed", x.record(0, 4, 0, 200), 9);
        Due.is("count(0)", x.count(0), 75);
    }

    private static void told() {
        CountKeyStore x = new CountKeyStore();
        Due.allocate(x, "LIB", 4, 3, 100, 12);
        int[] due = {4, 100, 12, 3, 1, 0, 0};
        for (int what = 0; what < due.length; what++) {
            Due.is("dataSet(0, " + what + ")", x.dataSet(0, what), due[what]);
        }
        for (int what : new int[] {-1, 7, 8, 9, 18, 19, 22, 23, 28, Integer.MAX_VALUE, Integer.MIN_VALUE}) {
            Due.is("dataSet(0, " + what + ")", x.dataSet(0, what), CountKeyStore.NONE);
        }
        Due.is("dataSet(-1, 0)", x.dataSet(-1, 0), CountKeyStore.NONE);
        Due.is("dataSet(10, 0)", x.dataSet(10, 0), CountKeyStore.NONE);
        Due.open(x, "LIB", 0);
        Due.open(x, "LIB", 0);
        Due.is("dataSet(0, 5)", x.dataSet(0, 5), 2);
        Due.is("count(2)", x.count(2), 2);
        Due.is("close(0)", x.close(0), 1);
        Due.is("dataSet(0, 5)", x.dataSet(0, 5), 1);
        int h = Due.open(x, "LIB", 1);
        Due.is("it is open", h, CountKeyStore.BUSY);
        x.close(1);
        h = Due.open(x, "LIB", 1);
        Due.stow(x, h, "ONE");
        Due.is("dataSet(0, 6)", x.dataSet(0, 6), 1);
        x.close(h);
        Due.fill(x, "LIB");
        x.scratch();
        Due.allocate(x, "OTHER", 4, 3, 100, 12);
        Due.is("a new one has no members", x.dataSet(0, 6), 0);
    }
}
