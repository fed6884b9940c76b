/** Promises 1 to 4, 6, 7 and 18: a new object, the buffer, OUT and MEMORY. */
public final class BufferTest {
    public static void main(String[] args) {
        newObject();
        feedAndEnd();
        memoryAndPoke();
        everyReaderEmptiesTheBuffer();
        Due.settle();
    }

    private static void newObject() {
        CountKeyStore x = new CountKeyStore();
        Due.is("count(0)", x.count(0), 79);
        for (int what = 1; what <= 4; what++) {
            Due.is("count", x.count(what), 0);
        }
        Due.is("count(5)", x.count(5), CountKeyStore.NONE);
        Due.is("count(-1)", x.count(-1), CountKeyStore.NONE);
        for (int track = 0; track < 80; track++) {
            Due.is("record", x.record(0, track, 0, 0), CountKeyStore.NONE);
            Due.is("record", x.record(1, track, 0, 5), CountKeyStore.NONE);
        }
        Due.is("out(0)", x.out(0), CountKeyStore.NONE);
        Due.is("time()", x.time(), 0);
        Due.is("status(0)", x.status(0), 0);
        Due.is("status(1)", x.status(1), 0);
        Due.is("status(2)", x.status(2), CountKeyStore.NONE);
        Due.is("status(3)", x.status(3), 0);
        for (int d = -1; d <= 10; d++) {
            Due.is("dataSet", x.dataSet(d, 0), CountKeyStore.NONE);
        }
        for (int h = -1; h <= 4; h++) {
            Due.is("opened", x.opened(h, 0), CountKeyStore.NONE);
        }
    }

    private static void feedAndEnd() {
        CountKeyStore x = new CountKeyStore();
        for (int n = 20; n <= 1200; n += 20) {
            Due.is("feed", x.feed(0x01020304, 0x80FF7F00, -1, Integer.MIN_VALUE, n), n);
        }
        Due.is("feed", x.feed(1, 2, 3, 4, 5), CountKeyStore.FULL);
        Due.is("count(3)", x.count(3), 1200);
        Due.is("end(1201)", x.end(1201), CountKeyStore.NONE);
        Due.is("end(-1)", x.end(-1), CountKeyStore.NONE);
        Due.is("end(1181)", x.end(1181), 1181);
        Due.is("feed", x.feed(1, 2, 3, 4, 5), CountKeyStore.FULL);
        Due.is("end(1180)", x.end(1180), 1180);
        Due.is("end(1181)", x.end(1181), CountKeyStore.NONE);
        Due.is("feed", x.feed(1, 2, 3, 4, 5), 1200);
        Due.is("end(20)", x.end(20), 20);
        Due.is("poke(0)", x.poke(0), 20);
        int[] due = {1, 2, 3, 4, 128, 255, 127, 0, 255, 255, 255, 255, 128, 0, 0, 0, 0, 0, 0, 20};
        for (int i = 0; i < 20; i++) {
            Due.is("memory", x.memory(i), due[i]);
        }
        Due.is("count(3)", x.count(3), 0);
    }

    private static void memoryAndPoke() {
        CountKeyStore x = new CountKeyStore();
        Due.is("memory(-1)", x.memory(-1), CountKeyStore.RANGE);
        Due.is("memory(2048)", x.memory(2048), CountKeyStore.RANGE);
        Due.is("memory(2047)", x.memory(2047), 0);
        Due.fill(x, 1, 2, 3);
        Due.is("poke(2045)", x.poke(2045), 3);
        Due.is("memory(2047)", x.memory(2047), 3);
        Due.fill(x, 9, 9, 9);
        Due.is("poke(2046)", x.poke(2046), CountKeyStore.RANGE);
        Due.is("memory(2046)", x.memory(2046), 2);
        Due.is("count(3)", x.count(3), 0);
        Due.fill(x, 9);
        Due.is("poke(-1)", x.poke(-1), CountKeyStore.RANGE);
        Due.is("count(3)", x.count(3), 0);
        Due.fill(x, 9);
        Due.is("poke(max)", x.poke(Integer.MAX_VALUE), CountKeyStore.RANGE);
        Due.is("poke(2048)", x.poke(2048), 0);
        Due.is("poke(2049)", x.poke(2049), CountKeyStore.RANGE);
        Due.fill(x, Due.row(1200, 5));
        Due.is("poke(848)", x.poke(848), 1200);
        Due.is("memory(848)", x.memory(848), 5);
        Due.is("memory(2047)", x.memory(2047), (5 + 1199) & 255);
        Due.fill(x, Due.row(1200, 6));
        Due.is("poke(849)", x.poke(849), CountKeyStore.RANGE);
        Due.is("memory(849)", x.memory(849), 6);
    }

    private static void everyReaderEmptiesTheBuffer() {
        for (int call = 0; call < 10; call++) {
            CountKeyStore x = new CountKeyStore();
            Due.fill(x, 1, 2, 3);
            switch (call) {
                case 0: Due.is("allocate", x.allocate(9, 1, 1, 1, false), CountKeyStore.RANGE); break;
                case 1: Due.is("scratch", x.scratch(), CountKeyStore.NONE); break;
                case 2: Due.is("extend", x.extend(0), CountKeyStore.RANGE); break;
                case 3: Due.is("open", x.open(3), CountKeyStore.RANGE); break;
                case 4: Due.is("put", x.put(0), CountKeyStore.NONE); break;
                case 5: Due.is("rewrite", x.rewrite(0), CountKeyStore.STATE); break;
                case 6: Due.is("putKeyed", x.putKeyed(0), CountKeyStore.STATE); break;
                case 7: Due.is("getKeyed", x.getKeyed(0), CountKeyStore.STATE); break;
                case 8: Due.is("member", x.member(0), CountKeyStore.STATE); break;
                default: Due.is("stow", x.stow(0), CountKeyStore.STATE); break;
            }
            Due.is("count(3)", x.count(3), 0);
        }
    }
}
