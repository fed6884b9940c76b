/** The boundary cases of promises 1 to 4, 6, 7 and 18; above each test stands the sentence that it asks for. */
public final class EdgeBufferTest extends Rig {
    public static void main(String[] args) {
        newObject();
        feedTwenty();
        feedFull();
        endBothSides();
        outOfNothing();
        memoryBothSides();
        pokeToTheEnd();
        pokeRefused();
        countOfOthers();
        readByPoke();
        readByAllocate();
        readByScratch();
        readByExtend();
        readByOpen();
        readByPut();
        readByRewrite();
        readByPutKeyed();
        readByGetKeyed();
        readByMember();
        readByStow();
        notReadByOthers();
        Due.settle();
    }

    // "Two empty UNITS, no DATA SETS, an empty BUFFER."
    private static void newObject() {
        CountKeyStore x = new CountKeyStore();
        for (int track = 0; track < 80; track++) {
            Due.is("unit 0", x.record(0, track, 0, 4), NONE);
            Due.is("unit 1", x.record(1, track, 0, 4), NONE);
        }
        for (int d = 0; d < 10; d++) {
            Due.is("no data set", x.dataSet(d, 0), NONE);
        }
        for (int u = 0; u < 2; u++) {
            Due.is("arm", x.arm(u, 0), 0);
            Due.is("arm", x.arm(u, 1), 0);
        }
        int[] counts = {79, 0, 0, 0, 0};
        for (int what = 0; what < 5; what++) {
            Due.is("count", x.count(what), counts[what]);
        }
        Due.is("memory(0)", x.memory(0), 0);
        Due.is("memory(2047)", x.memory(2047), 0);
        Due.is("time()", x.time(), 0);
        ended(x, 0, 0, NONE, 0);
        Due.is("a command 0 has OP 0", x.start(1), BAD_PROGRAM);
        Due.is("of unit 0 too", x.start(0), BAD_PROGRAM);
        Due.is("time()", x.time(), 0);
        CountKeyStore other = new CountKeyStore();
        other.feed(1, 2, 3, 4, 5);
        Due.is("objects share nothing", x.count(3), 0);
    }

    // "Twenty bytes come behind THE BUFFER, the highest of each int first: how many it has"
    private static void feedTwenty() {
        CountKeyStore x = new CountKeyStore();
        Due.is("feed", x.feed(0x01020304, -1, MIN, MAX, 0), 20);
        Due.is("feed", x.feed(0x80000001, 0xFF00FF00, 0, 1, 0x7F80817E), 40);
        Due.is("count(3)", x.count(3), 40);
        Due.is("poke", x.poke(7), 40);
        int[] due = {1, 2, 3, 4, 255, 255, 255, 255, 128, 0, 0, 0, 127, 255, 255, 255, 0, 0, 0, 0,
            128, 0, 0, 1, 255, 0, 255, 0, 0, 0, 0, 0, 0, 0, 0, 1, 127, 128, 129, 126};
        for (int i = 0; i < 40; i++) {
            Due.is("byte " + i, x.memory(7 + i), due[i]);
        }
        Due.is("ahead of them", x.memory(6), 0);
        Due.is("behind them", x.memory(47), 0);
    }

    // "FULL when there would be more than 1200."
    private static void feedFull() {
        CountKeyStore x = new CountKeyStore();
        for (int i = 1; i <= 60; i++) {
            Due.is("feed", x.feed(i, i, i, i, i), 20 * i);
        }
        Due.is("the 61st", x.feed(-1, -1, -1, -1, -1), FULL);
        Due.is("it has what it had", x.count(3), 1200);
        Due.is("poke", x.poke(0), 1200);
        Due.is("its last byte", x.memory(1199), 60);
        Due.is("nothing came behind it", x.memory(1200), 0);
        for (int i = 1; i <= 60; i++) {
            x.feed(i, i, i, i, i);
        }
        Due.is("end(1181)", x.end(1181), 1181);
        Due.is("1201", x.feed(-1, -1, -1, -1, -1), FULL);
        Due.is("none of them came", x.count(3), 1181);
        Due.is("end(1180)", x.end(1180), 1180);
        Due.is("1200", x.feed(-1, -1, -1, -1, -1), 1200);
    }

    // "THE BUFFER has its first n bytes alone: n; NONE when it has not so many, or n is below 0."
    private static void endBothSides() {
        CountKeyStore x = new CountKeyStore();
        Due.is("end(0) of none", x.end(0), 0);
        Due.is("end(1) of none", x.end(1), NONE);
        x.feed(0x01020304, 0x05060708, 0, 0, 0);
        Due.is("end(21)", x.end(21), NONE);
        Due.is("end(-1)", x.end(-1), NONE);
        Due.is("end(min)", x.end(MIN), NONE);
        Due.is("end(max)", x.end(MAX), NONE);
        Due.is("it stays", x.count(3), 20);
        Due.is("end(20)", x.end(20), 20);
        Due.is("end(3)", x.end(3), 3);
        Due.is("what is cut off is gone", x.end(4), NONE);
        Due.is("feed", x.feed(0x63000000, 0, 0, 0, 0), 23);
        Due.is("end(4)", x.end(4), 4);
        Due.is("poke", x.poke(0), 4);
        Due.is("the third", x.memory(2), 3);
        Due.is("the new one is right behind", x.memory(3), 99);
        x.feed(1, 2, 3, 4, 5);
        Due.is("end(0)", x.end(0), 0);
        Due.is("none is left", x.count(3), 0);
    }

    // "Byte i of OUT, 0 .. 255 (what was got latest; empty at first); NONE."
    private static void outOfNothing() {
        CountKeyStore x = new CountKeyStore();
        Due.is("out(0)", x.out(0), NONE);
        Due.is("out(-1)", x.out(-1), NONE);
        Due.allocate(x, "V", VARIABLE, 1, 0, 20);
        int h = Due.open(x, "V", TO_PUT);
        Due.put(x, h, 255, 128, 0);
        Due.put(x, h);
        x.close(h);
        Due.is("what is put is not got", x.count(4), 0);
        h = Due.open(x, "V", TO_GET);
        Due.is("get", x.get(h), 3);
        Due.is("out(0)", x.out(0), 255);
        Due.is("out(1)", x.out(1), 128);
        Due.is("out(2)", x.out(2), 0);
        Due.is("out(3)", x.out(3), NONE);
        Due.is("out(-1)", x.out(-1), NONE);
        Due.is("out(min)", x.out(MIN), NONE);
        Due.is("out(max)", x.out(MAX), NONE);
        Due.is("get", x.get(h), 0);
        Due.is("OUT is empty now", x.out(0), NONE);
        Due.is("count(4)", x.count(4), 0);
    }

    // "Byte i of MEMORY, 0 .. 255; RANGE." and "MEMORY has 2048 bytes, 0 at first."
    private static void memoryBothSides() {
        CountKeyStore x = new CountKeyStore();
        Due.poke(x, 0, 255);
        Due.poke(x, 2047, 254);
        Due.is("memory(0)", x.memory(0), 255);
        Due.is("memory(1)", x.memory(1), 0);
        Due.is("memory(2046)", x.memory(2046), 0);
        Due.is("memory(2047)", x.memory(2047), 254);
        for (int i : new int[] {-1, 2048, MIN, MAX}) {
            Due.is("memory " + i, x.memory(i), RANGE);
        }
    }

    // "THE BUFFER (read) comes to MEMORY from a place on: how many bytes"
    private static void pokeToTheEnd() {
        CountKeyStore x = new CountKeyStore();
        Due.fill(x, 1, 2, 3);
        Due.is("to the last byte", x.poke(2045), 3);
        Due.is("memory(2045)", x.memory(2045), 1);
        Due.is("memory(2047)", x.memory(2047), 3);
        Due.is("none, at the end", x.poke(2048), 0);
        Due.is("none, at the beginning", x.poke(0), 0);
        Due.is("memory(0)", x.memory(0), 0);
        Due.fill(x, Due.row(1200, 1));
        Due.is("1200 to the last byte", x.poke(848), 1200);
        Due.is("memory(847)", x.memory(847), 0);
        Due.is("memory(848)", x.memory(848), 1);
        Due.is("memory(2047)", x.memory(2047), 1200 % 256);
    }

    // "RANGE, and none come, when that is below 0, or they would go beyond its end."
    private static void pokeRefused() {
        CountKeyStore x = new CountKeyStore();
        for (int from : new int[] {2046, 2047, 2048, -1, -2, -3, MIN, MAX, MAX - 2}) {
            Due.fill(x, 7, 8, 9);
            Due.is("poke " + from, x.poke(from), RANGE);
            Due.is("it is empty then", x.count(3), 0);
        }
        for (int i : new int[] {0, 1, 2, 2045, 2046, 2047}) {
            Due.is("none came to " + i, x.memory(i), 0);
        }
        Due.is("none, but behind the end", x.poke(2049), RANGE);
        Due.is("none, but below 0", x.poke(-1), RANGE);
        Due.fill(x, Due.row(1200, 1));
        Due.is("1200, one too far", x.poke(849), RANGE);
        Due.is("none came", x.memory(849), 0);
        Due.is("none came", x.memory(2047), 0);
    }

    // "What 0: free TRACKS, 1: DATA SETS, 2: what is open, 3: bytes of THE BUFFER, 4: bytes of OUT. NONE for others."
    private static void countOfOthers() {
        CountKeyStore x = new CountKeyStore();
        for (int what : new int[] {-1, 5, MIN, MAX}) {
            Due.is("count " + what, x.count(what), NONE);
        }
        Due.allocate(x, "L", LIBRARY, 79, 1, 1);
        Due.is("no free tracks", x.count(0), 0);
        int h = Due.open(x, "L", TO_PUT);
        Due.stow(x, h, "M");
        Due.is("one set", x.count(1), 1);
        Due.is("one open", x.count(2), 1);
        x.close(h);
        Due.is("none open", x.count(2), 0);
        x.memberAt(0, 0);
        x.feed(1, 2, 3, 4, 5);
        Due.is("the buffer", x.count(3), 20);
        Due.is("OUT", x.count(4), 8);
    }

    // ---- "Each call that is told so reads it: it is empty then, whatever that answers."

    private static void read(CountKeyStore x, String call, int answer, int due) {
        Due.is(call, answer, due);
        Due.is("the buffer behind " + call, x.count(3), 0);
    }

    private static CountKeyStore fed(CountKeyStore x, String name) {
        Due.fill(x, name);
        return x;
    }

    private static CountKeyStore fed(CountKeyStore x, int... bytes) {
        Due.fill(x, bytes);
        return x;
    }

    private static void readByPoke() {
        CountKeyStore x = new CountKeyStore();
        read(x, "poke", fed(x, 1, 2).poke(0), 2);
        read(x, "poke", fed(x, 1, 2).poke(-1), RANGE);
        read(x, "poke", fed(x, 1, 2).poke(2047), RANGE);
    }

    private static void readByAllocate() {
        CountKeyStore x = new CountKeyStore();
        read(x, "allocate", fed(x, "A").allocate(FIXED, 70, 1, 1, false), 0);
        read(x, "allocate", fed(x, "B").allocate(5, 1, 1, 1, false), RANGE);
        read(x, "allocate", fed(x, "B").allocate(FIXED, 0, 1, 1, false), RANGE);
        read(x, "allocate", fed(x, "A").allocate(FIXED, 1, 1, 1, false), TWICE);
        read(x, "allocate", fed(x, "B").allocate(FIXED, 10, 1, 1, false), FULL);
        read(x, "allocate", fed(x, "B").allocate(FIXED, 10, 1, 1, true), FULL);
        for (int d = 1; d < 10; d++) {
            read(x, "allocate", fed(x, "S" + d).allocate(FIXED, 1, 1, 1, true), d);
        }
        read(x, "allocate", fed(x, "B").allocate(FIXED, 1, 1, 1, false), FULL);
        Due.is("a name longer than eight", fed(x, 1, 2, 3, 4, 5, 6, 7, 8, 9, 10).allocate(9, 1, 1, 1, false), RANGE);
        Due.is("is read whole", x.count(3), 0);
    }

    private static void readByScratch() {
        CountKeyStore x = new CountKeyStore();
        Due.allocate(x, "A", FIXED, 1, 1, 1);
        read(x, "scratch", fed(x, "X").scratch(), NONE);
        int h = Due.open(x, "A", TO_GET);
        read(x, "scratch", fed(x, "A").scratch(), BUSY);
        x.close(h);
        read(x, "scratch", fed(x, "A").scratch(), 0);
    }

    private static void readByExtend() {
        CountKeyStore x = new CountKeyStore();
        Due.allocate(x, "A", FIXED, 1, 1, 1);
        Due.allocate(x, "D", DIRECT, 1, 1, 1);
        read(x, "extend", fed(x, "A").extend(0), RANGE);
        read(x, "extend", fed(x, "X").extend(1), NONE);
        read(x, "extend", fed(x, "D").extend(1), STATE);
        read(x, "extend", fed(x, "A").extend(79), FULL);
        read(x, "extend", fed(x, "A").extend(1), 2);
    }

    private static void readByOpen() {
        CountKeyStore x = new CountKeyStore();
        Due.allocate(x, "A", FIXED, 1, 1, 1);
        Due.allocate(x, "D", DIRECT, 1, 1, 1);
        read(x, "open", fed(x, "A").open(3), RANGE);
        read(x, "open", fed(x, "X").open(TO_GET), NONE);
        read(x, "open", fed(x, "D").open(TO_PUT), STATE);
        for (int h = 0; h < 4; h++) {
            read(x, "open", fed(x, "A").open(TO_GET), h);
        }
        read(x, "open", fed(x, "A").open(TO_PUT), BUSY);
        read(x, "open", fed(x, "A").open(TO_GET), FULL);
    }

    private static void readByPut() {
        CountKeyStore x = new CountKeyStore();
        Due.allocate(x, "A", FIXED, 1, 200, 6);
        read(x, "put", fed(x, 1).put(0), NONE);
        Due.open(x, "A", TO_GET);
        read(x, "put", fed(x, Due.row(200, 0)).put(0), STATE);
        x.close(0);
        Due.open(x, "A", TO_PUT);
        read(x, "put", fed(x, 1).put(0), LENGTH);
        // 1230 places, then a block of one record with 230: 240 are left for it.
        for (int i = 0; i < 7; i++) {
            read(x, "put", fed(x, Due.row(200, 0)).put(0), 1);
        }
        read(x, "put", fed(x, Due.row(200, 0)).put(0), FULL);
    }

    private static void readByRewrite() {
        CountKeyStore x = new CountKeyStore();
        Due.allocate(x, "A", FIXED, 1, 1, 1);
        Due.open(x, "A", TO_PUT);
        Due.put(x, 0, 1);
        read(x, "rewrite", fed(x, 1).rewrite(0), STATE);
        x.close(0);
        read(x, "rewrite", fed(x, 1).rewrite(0), STATE);
        Due.open(x, "A", TO_CHANGE);
        read(x, "rewrite", fed(x, 1).rewrite(0), STATE);
        Due.is("get", x.get(0), 1);
        read(x, "rewrite", fed(x, 1, 2).rewrite(0), LENGTH);
        read(x, "rewrite", fed(x, 2).rewrite(0), 1);
    }

    private static void readByPutKeyed() {
        CountKeyStore x = new CountKeyStore();
        Due.allocate(x, "D", DIRECT, 1, 1, 400);
        Due.allocate(x, "A", FIXED, 1, 1, 1);
        read(x, "putKeyed", fed(x, Due.row(401, 1)).putKeyed(0), STATE);
        Due.open(x, "D", TO_GET);
        Due.open(x, "A", TO_CHANGE);
        read(x, "putKeyed", fed(x, Due.row(401, 1)).putKeyed(0), STATE);
        read(x, "putKeyed", fed(x, 1, 1).putKeyed(1), STATE);
        x.close(0);
        Due.open(x, "D", TO_CHANGE);
        read(x, "putKeyed", fed(x, 1).putKeyed(0), LENGTH);
        for (int i = 1; i <= 3; i++) {
            read(x, "putKeyed", fed(x, Due.row(401, i)).putKeyed(0), 2);
        }
        read(x, "putKeyed", fed(x, Due.row(401, 1)).putKeyed(0), 1);
        read(x, "putKeyed", fed(x, Due.row(401, 4)).putKeyed(0), FULL);
    }

    private static void readByGetKeyed() {
        CountKeyStore x = new CountKeyStore();
        Due.allocate(x, "D", DIRECT, 1, 1, 1);
        Due.allocate(x, "A", FIXED, 1, 1, 1);
        read(x, "getKeyed", fed(x, 1).getKeyed(0), STATE);
        Due.open(x, "D", TO_CHANGE);
        Due.open(x, "A", TO_GET);
        read(x, "getKeyed", fed(x, 1).getKeyed(1), STATE);
        read(x, "getKeyed", fed(x, 1, 2).getKeyed(0), LENGTH);
        read(x, "getKeyed", fed(x, 1).getKeyed(0), NONE);
        fed(x, 1, 5).putKeyed(0);
        read(x, "getKeyed", fed(x, 1).getKeyed(0), 1);
        x.spoil(0, 1, 0);
        read(x, "getKeyed", fed(x, 1).getKeyed(0), CHECK);
    }

    private static void readByMember() {
        CountKeyStore x = new CountKeyStore();
        Due.allocate(x, "L", LIBRARY, 2, 1, 1);
        Due.allocate(x, "A", FIXED, 1, 1, 1);
        read(x, "member", fed(x, "M").member(0), STATE);
        Due.open(x, "L", TO_PUT);
        Due.open(x, "A", TO_GET);
        Due.stow(x, 0, "M");
        read(x, "member", fed(x, "M").member(0), STATE);
        read(x, "member", fed(x, "M").member(1), STATE);
        x.close(0);
        Due.open(x, "L", TO_GET);
        read(x, "member", fed(x, "X").member(0), NONE);
        read(x, "member", fed(x, "M").member(0), 0);
    }

    private static void readByStow() {
        CountKeyStore x = new CountKeyStore();
        Due.allocate(x, "L", LIBRARY, 2, 1, 1);
        Due.allocate(x, "A", FIXED, 1, 1, 1);
        read(x, "stow", fed(x, "M").stow(0), STATE);
        Due.open(x, "L", TO_GET);
        Due.open(x, "A", TO_PUT);
        read(x, "stow", fed(x, "M").stow(0), STATE);
        read(x, "stow", fed(x, "M").stow(1), STATE);
        x.close(0);
        Due.open(x, "L", TO_PUT);
        for (int i = 0; i < 40; i++) {
            read(x, "stow", fed(x, 65, i).stow(0), i + 1);
        }
        read(x, "stow", fed(x, "X").stow(0), FULL);
    }

    // A call that is not told so leaves it as it is.
    private static void notReadByOthers() {
        CountKeyStore x = new CountKeyStore();
        Due.allocate(x, "L", LIBRARY, 2, 1, 1);
        Due.open(x, "L", TO_PUT);
        Due.stow(x, 0, "M");
        x.close(0);
        Due.open(x, "L", TO_GET);
        x.feed(1, 2, 3, 4, 5);
        x.end(21);
        x.end(-1);
        x.out(0);
        x.command(0, NOTHING, 0, 0, 0);
        x.memory(0);
        x.start(1);
        x.start(2);
        x.status(0);
        x.time();
        x.arm(0, 0);
        x.record(0, 0, 0, 0);
        x.spoil(0, 0, 0);
        x.dataSet(0, 0);
        x.count(0);
        x.get(0);
        x.opened(0, 0);
        x.close(3);
        x.close(0);
        x.memberAt(0, 0);
        x.drop(0, 0);
        x.press(0);
        Due.is("count(3)", x.count(3), 20);
        Due.is("poke", x.poke(0), 20);
        Due.is("memory(3)", x.memory(3), 1);
        Due.is("memory(19)", x.memory(19), 5);
    }
}
