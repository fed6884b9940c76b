/** Promises 19 to 23 and 31: what is open, and records one behind the other in blocks. */
public final class SequentialTest {
    public static void main(String[] args) {
        opening();
        busy();
        whatStatesRefuse();
        fixedBlocks();
        fixedFull();
        variableBlocks();
        variableLengths();
        variableFull();
        spannedBlocks();
        spannedEmptyRecords();
        spannedFull();
        behindTheLastBlock();
        exactRoom();
        blocksOverTracks();
        opensToPutEmpty();
        growsWhileOpen();
        getting();
        checks();
        spoiledUnderWay();
        spoiledUnderWayVariable();
        spoiledUnderWaySpanned();
        spannedChecks();
        rewritingFixed();
        rewritingVariable();
        rewritingSpanned();
        counted();
        Due.settle();
    }

    private static CountKeyStore with(int kind, int tracks, int a, int b) {
        CountKeyStore x = new CountKeyStore();
        Due.is("allocate", Due.allocate(x, "A", kind, tracks, a, b), 0);
        return x;
    }

    private static void opening() {
        CountKeyStore x = with(0, 1, 4, 2);
        Due.allocate(x, "D", 3, 1, 1, 1);
        Due.allocate(x, "L", 4, 2, 1, 1);
        Due.is("mode -1", Due.open(x, "A", -1), CountKeyStore.RANGE);
        Due.is("mode 3", Due.open(x, "X", 3), CountKeyStore.RANGE);
        Due.is("no such set", Due.open(x, "X", 0), CountKeyStore.NONE);
        Due.is("a LIBRARY to change", Due.open(x, "L", 2), CountKeyStore.STATE);
        Due.is("a DIRECT one to put", Due.open(x, "D", 1), CountKeyStore.STATE);
        Due.is("count(2)", x.count(2), 0);
        Due.is("0", Due.open(x, "A", 0), 0);
        Due.is("1", Due.open(x, "D", 2), 1);
        Due.is("2", Due.open(x, "L", 1), 2);
        Due.is("3", Due.open(x, "A", 0), 3);
        Due.is("no more", Due.open(x, "A", 0), CountKeyStore.FULL);
        Due.is("BUSY goes ahead of FULL", Due.open(x, "D", 0), CountKeyStore.BUSY);
        Due.is("STATE goes ahead of BUSY", Due.open(x, "L", 2), CountKeyStore.STATE);
        Due.is("count(2)", x.count(2), 4);
        int[][] due = {{0, 0}, {1, 2}, {2, 1}, {0, 0}};
        for (int h = 0; h < 4; h++) {
            Due.is("opened(h, 0)", x.opened(h, 0), due[h][0]);
            Due.is("opened(h, 1)", x.opened(h, 1), due[h][1]);
            Due.is("opened(h, 2)", x.opened(h, 2), 0);
            Due.is("opened(h, 3)", x.opened(h, 3), 0);
            Due.is("opened(h, 4)", x.opened(h, 4), CountKeyStore.NONE);
            Due.is("opened(h, -1)", x.opened(h, -1), CountKeyStore.NONE);
        }
        Due.is("close(1)", x.close(1), 1);
        Due.is("close(1)", x.close(1), CountKeyStore.NONE);
        Due.is("close(-1)", x.close(-1), CountKeyStore.NONE);
        Due.is("close(4)", x.close(4), CountKeyStore.NONE);
        Due.is("opened(1, 0)", x.opened(1, 0), CountKeyStore.NONE);
        Due.is("the lowest that is free", Due.open(x, "D", 0), 1);
        Due.is("and another", Due.open(x, "D", 0), CountKeyStore.FULL);
    }

    private static void busy() {
        for (int first = 0; first < 3; first++) {
            for (int then = 0; then < 3; then++) {
                CountKeyStore x = with(1, 1, 0, 8);
                Due.is("open", Due.open(x, "A", first), 0);
                Due.is("open " + first + " then " + then, Due.open(x, "A", then),
                        first == 0 && then == 0 ? 1 : CountKeyStore.BUSY);
                x.close(0);
                Due.is("closed", Due.open(x, "A", 1), first == 0 && then == 0 ? CountKeyStore.BUSY : 0);
            }
        }
    }

    private static void whatStatesRefuse() {
        CountKeyStore x = with(0, 1, 1, 2);
        for (int h : new int[] {-1, 0, 3, 4, Integer.MAX_VALUE, Integer.MIN_VALUE}) {
            Due.is("put", x.put(h), CountKeyStore.NONE);
            Due.is("get", x.get(h), CountKeyStore.STATE);
            Due.is("rewrite", x.rewrite(h), CountKeyStore.STATE);
            Due.is("close", x.close(h), CountKeyStore.NONE);
            Due.is("opened", x.opened(h, 0), CountKeyStore.NONE);
        }
        Due.open(x, "A", 1);
        Due.is("get of what is open to put", x.get(0), CountKeyStore.STATE);
        Due.is("rewrite too", x.rewrite(0), CountKeyStore.STATE);
        Due.is("a wrong length", Due.put(x, 0, 1, 2), CountKeyStore.LENGTH);
        Due.is("none at all", Due.put(x, 0), CountKeyStore.LENGTH);
        x.close(0);
        Due.open(x, "A", 0);
        Due.is("put to what is open to get", Due.put(x, 0, 1, 2), CountKeyStore.STATE);
        x.close(0);
        Due.open(x, "A", 2);
        Due.is("put to what is open to change", Due.put(x, 0, 1), CountKeyStore.STATE);
        Due.allocate(x, "D", 3, 1, 1, 1);
        Due.open(x, "D", 2);
        Due.is("get of a DIRECT one", x.get(1), CountKeyStore.STATE);
        Due.is("put to a DIRECT one", Due.put(x, 1, 1, 1), CountKeyStore.STATE);
        Due.is("rewrite of a DIRECT one", x.rewrite(1), CountKeyStore.STATE);
        Due.allocate(x, "L", 4, 2, 1, 1);
        Due.open(x, "L", 0);
        Due.is("get of a LIBRARY without a member", x.get(2), CountKeyStore.STATE);
    }

    private static void fixedBlocks() {
        CountKeyStore x = with(0, 2, 3, 2);
        int h = Due.open(x, "A", 1);
        Due.is("put", Due.put(x, h, 1, 2, 3), 1);
        Due.is("opened(h, 3)", x.opened(h, 3), 3);
        Due.is("nothing is written", x.record(0, 1, 0, 0), CountKeyStore.NONE);
        Due.is("put", Due.put(x, h, 4, 5, 6), 1);
        Due.is("opened(h, 3)", x.opened(h, 3), 0);
        Due.holds("the block", Due.dataIs(x, 1, 0, 1, 2, 3, 4, 5, 6));
        Due.is("its cylinder", x.record(0, 1, 0, 0), 0);
        Due.is("its head", x.record(0, 1, 0, 1), 1);
        Due.is("its number", x.record(0, 1, 0, 2), 1);
        Due.is("no key", x.record(0, 1, 0, 3), 0);
        Due.is("put", Due.put(x, h, 7, 8, 9), 1);
        Due.is("close", x.close(h), 1);
        Due.holds("the last has fewer", Due.dataIs(x, 1, 1, 7, 8, 9));
        Due.is("its number", x.record(0, 1, 1, 2), 2);
        Due.is("no third", x.record(0, 1, 2, 2), CountKeyStore.NONE);
        h = Due.open(x, "A", 0);
        for (int i = 0; i < 3; i++) {
            Due.is("get", x.get(h), 3);
            Due.holds("the record", Due.outIs(x, 3 * i + 1, 3 * i + 2, 3 * i + 3));
        }
        Due.is("behind the last", x.get(h), CountKeyStore.NONE);
        Due.holds("OUT stays", Due.outIs(x, 7, 8, 9));
        Due.is("again", x.get(h), CountKeyStore.NONE);
    }

    private static void fixedFull() {
        // A block of 3 times 200 takes 630 places: two of them a track; of one record, 230.
        CountKeyStore x = with(0, 2, 200, 3);
        int h = Due.open(x, "A", 1);
        for (int i = 0; i < 12; i++) {
            Due.is("put " + i, Due.put(x, h, Due.row(200, i)), 1);
        }
        Due.is("the first track", x.record(0, 1, 1, 5), 660);
        Due.is("1290 are taken", x.record(0, 1, 2, 5), CountKeyStore.NONE);
        Due.is("the second track", x.record(0, 2, 1, 5), 660);
        Due.is("its first number", x.record(0, 2, 0, 2), 1);
        Due.is("210 places are left: 230 are wanted", Due.put(x, h, Due.row(200, 0)), CountKeyStore.FULL);
        Due.is("opened(h, 2)", x.opened(h, 2), 12);
        Due.is("opened(h, 3)", x.opened(h, 3), 0);
        Due.is("count(3)", x.count(3), 0);
        x.close(h);
        // Behind two blocks of 3 times 180 there are 330 places: one record, but not two.
        x = with(0, 1, 180, 3);
        h = Due.open(x, "A", 1);
        for (int i = 0; i < 6; i++) {
            Due.is("put " + i, Due.put(x, h, Due.row(180, i)), 1);
        }
        Due.is("two blocks of 570", x.record(0, 1, 1, 5), 600);
        Due.is("a part of a block still fits", Due.put(x, h, Due.row(180, 9)), 1);
        Due.is("opened(h, 3)", x.opened(h, 3), 180);
        Due.is("but no more of it", Due.put(x, h, Due.row(180, 9)), CountKeyStore.FULL);
        Due.is("opened(h, 3)", x.opened(h, 3), 180);
        x.close(h);
        Due.is("it was written", x.record(0, 1, 2, 4), 180);
        h = Due.open(x, "A", 0);
        for (int i = 0; i < 7; i++) {
            Due.is("get", x.get(h), 180);
        }
        Due.is("get", x.get(h), CountKeyStore.NONE);
    }

    private static void variableBlocks() {
        CountKeyStore x = with(1, 1, 0, 12);
        int h = Due.open(x, "A", 1);
        Due.is("put", Due.put(x, h, 1, 2), 1);
        Due.is("opened(h, 3)", x.opened(h, 3), 6);
        Due.is("put", Due.put(x, h, 3, 4, 5, 6), 1);
        Due.is("exactly full", x.opened(h, 3), 12);
        Due.is("but not written", x.record(0, 1, 0, 0), CountKeyStore.NONE);
        Due.is("put", Due.put(x, h), 1);
        Due.is("opened(h, 3)", x.opened(h, 3), 4);
        Due.holds("the block", Due.dataIs(x, 1, 0, 0, 12, 0, 4, 1, 2, 0, 6, 3, 4, 5, 6));
        Due.is("put", Due.put(x, h, 9, 9, 9, 9, 9, 9, 9), 1);
        Due.holds("the block", Due.dataIs(x, 1, 1, 0, 4, 0, 2));
        Due.is("close", x.close(h), 1);
        Due.holds("the block", Due.dataIs(x, 1, 2, 0, 11, 0, 9, 9, 9, 9, 9, 9, 9, 9));
        h = Due.open(x, "A", 0);
        Due.is("get", x.get(h), 2);
        Due.holds("OUT", Due.outIs(x, 1, 2));
        Due.is("get", x.get(h), 4);
        Due.holds("OUT", Due.outIs(x, 3, 4, 5, 6));
        Due.is("get", x.get(h), 0);
        Due.holds("OUT", Due.outIs(x));
        Due.is("get", x.get(h), 7);
        Due.is("get", x.get(h), CountKeyStore.NONE);
        Due.is("count(4)", x.count(4), 7);
    }

    private static void variableLengths() {
        CountKeyStore x = with(1, 1, 0, 8);
        int h = Due.open(x, "A", 1);
        Due.is("4 of 8", Due.put(x, h, 1, 2, 3, 4), 1);
        Due.is("5 of 8", Due.put(x, h, 1, 2, 3, 4, 5), CountKeyStore.LENGTH);
        Due.is("opened(h, 3)", x.opened(h, 3), 8);
        x.close(h);
        x = with(1, 2, 0, 1200);
        h = Due.open(x, "A", 1);
        Due.is("1196 of 1200", Due.put(x, h, Due.row(1196, 3)), 1);
        Due.is("1197 of 1200", Due.put(x, h, Due.row(1197, 3)), CountKeyStore.LENGTH);
        x.close(h);
        Due.is("the block's length", x.record(0, 1, 0, 200) * 256 + x.record(0, 1, 0, 201), 1200);
        Due.is("the record's", x.record(0, 1, 0, 202) * 256 + x.record(0, 1, 0, 203), 1198);
        h = Due.open(x, "A", 0);
        Due.is("get", x.get(h), 1196);
        Due.holds("OUT", Due.outIs(x, Due.row(1196, 3)));
    }

    private static void variableFull() {
        CountKeyStore x = with(1, 1, 0, 1000);
        int h = Due.open(x, "A", 1);
        Due.is("put", Due.put(x, h, Due.row(996, 0)), 1);
        // 440 places are left behind a block of 1000: 406 bytes of a record, with 34.
        Due.is("407", Due.put(x, h, Due.row(407, 0)), CountKeyStore.FULL);
        Due.is("the block is not written", x.record(0, 1, 0, 0), CountKeyStore.NONE);
        Due.is("opened(h, 3)", x.opened(h, 3), 1000);
        Due.is("406", Due.put(x, h, Due.row(406, 0)), 1);
        Due.is("the block is written", x.record(0, 1, 0, 4), 1000);
        Due.is("opened(h, 3)", x.opened(h, 3), 410);
        Due.is("not one more", Due.put(x, h), CountKeyStore.FULL);
        Due.is("close", x.close(h), 1);
        Due.is("the last block", x.record(0, 1, 1, 4), 410);
    }

    private static void spannedBlocks() {
        CountKeyStore x = with(2, 1, 0, 10);
        int h = Due.open(x, "A", 1);
        Due.is("put", Due.put(x, h, 1), 1);
        Due.is("opened(h, 3)", x.opened(h, 3), 6);
        // Four bytes are free: one byte of it fits, then five, then two.
        Due.is("put", Due.put(x, h, Due.row(8, 20)), 1);
        Due.holds("a whole one and a first piece", Due.dataIs(x, 1, 0, 0, 10, 0, 4, 0, 1, 0, 4, 1, 20));
        Due.holds("one between", Due.dataIs(x, 1, 1, 0, 10, 0, 8, 3, 21, 22, 23, 24, 25));
        Due.is("opened(h, 3)", x.opened(h, 3), 7);
        // Three bytes are free: too few for a piece.
        Due.is("put", Due.put(x, h, 50, 51), 1);
        Due.holds("a last piece", Due.dataIs(x, 1, 2, 0, 7, 0, 5, 2, 26, 27));
        Due.is("opened(h, 3)", x.opened(h, 3), 7);
        Due.is("close", x.close(h), 1);
        Due.holds("a whole one", Due.dataIs(x, 1, 3, 0, 7, 0, 5, 0, 50, 51));
        h = Due.open(x, "A", 0);
        Due.is("get", x.get(h), 1);
        Due.is("get", x.get(h), 8);
        Due.holds("OUT", Due.outIs(x, Due.row(8, 20)));
        Due.is("get", x.get(h), 2);
        Due.holds("OUT", Due.outIs(x, 50, 51));
        Due.is("get", x.get(h), CountKeyStore.NONE);
        Due.is("opened(h, 2)", x.opened(h, 2), 3);
        // Exactly to the end of a block: no empty piece behind it.
        x = with(2, 1, 0, 10);
        h = Due.open(x, "A", 1);
        Due.is("put", Due.put(x, h, 1, 2, 3, 4, 5), 1);
        Due.is("full, not written", x.opened(h, 3), 10);
        Due.is("not written", x.record(0, 1, 0, 0), CountKeyStore.NONE);
        x.close(h);
        Due.holds("a whole one", Due.dataIs(x, 1, 0, 0, 10, 0, 8, 0, 1, 2, 3, 4, 5));
    }

    private static void spannedEmptyRecords() {
        CountKeyStore x = with(2, 1, 0, 11);
        int h = Due.open(x, "A", 1);
        for (int i = 1; i <= 3; i++) {
            Due.is("put", Due.put(x, h), 1);
            Due.is("opened(h, 3)", x.opened(h, 3), 2 + 3 * i);
        }
        Due.is("put", Due.put(x, h), 1);
        Due.holds("three of them", Due.dataIs(x, 1, 0, 0, 11, 0, 3, 0, 0, 3, 0, 0, 3, 0));
        Due.is("opened(h, 3)", x.opened(h, 3), 5);
        x.close(h);
        h = Due.open(x, "A", 2);
        for (int i = 0; i < 4; i++) {
            Due.is("get", x.get(h), 0);
        }
        Due.is("rewrite", x.rewrite(h), 1);
        Due.is("get", x.get(h), CountKeyStore.NONE);
    }

    private static void spannedFull() {
        CountKeyStore x = with(2, 1, 0, 1200);
        int h = Due.open(x, "A", 1);
        Due.is("put", Due.put(x, h, Due.row(1195, 0)), 1);
        Due.is("opened(h, 3)", x.opened(h, 3), 1200);
        // 1470 less 1230: 240 places, 210 bytes of a block, 205 of a record.
        Due.is("206", Due.put(x, h, Due.row(206, 0)), CountKeyStore.FULL);
        Due.is("not written", x.record(0, 1, 0, 0), CountKeyStore.NONE);
        Due.is("205", Due.put(x, h, Due.row(205, 0)), 1);
        Due.is("written", x.record(0, 1, 0, 4), 1200);
        Due.is("not one more", Due.put(x, h), CountKeyStore.FULL);
        x.close(h);
        Due.is("written", x.record(0, 1, 1, 4), 210);
        // The smallest blocks: three bytes each, 38 places, 38 of them a track.
        x = with(2, 10, 0, 8);
        h = Due.open(x, "A", 1);
        Due.is("1140 bytes: ten tracks", Due.put(x, h, Due.row(1140, 0)), 1);
        Due.is("the last block waits", x.record(0, 10, 37, 0), CountKeyStore.NONE);
        Due.is("the one before is there", x.record(0, 10, 36, 2), 37);
        Due.is("no more", Due.put(x, h), CountKeyStore.FULL);
        x.close(h);
        Due.is("the last block", x.record(0, 10, 37, 2), 38);
        h = Due.open(x, "A", 0);
        Due.is("get", x.get(h), 1140);
        Due.holds("OUT", Due.outIs(x, Due.row(1140, 0)));
        x.close(h);
        h = Due.open(x, "A", 1);
        Due.is("one byte too many", Due.put(x, h, Due.row(1141, 0)), CountKeyStore.FULL);
        Due.is("nothing came", x.record(0, 1, 0, 0), CountKeyStore.NONE);
        Due.is("opened(h, 3)", x.opened(h, 3), 0);
        Due.is("one byte fewer", Due.put(x, h, Due.row(1139, 0)), 1);
    }

    private static void behindTheLastBlock() {
        // The first track has room left, but the last block is on the second one.
        CountKeyStore x = with(1, 2, 0, 1200);
        int h = Due.open(x, "A", 1);
        Due.is("put", Due.put(x, h, Due.row(896, 1)), 1);
        Due.is("put", Due.put(x, h, Due.row(896, 2)), 1);
        Due.is("put", Due.put(x, h, Due.row(400, 3)), 1);
        Due.is("one on the first", x.record(0, 1, 0, 4), 900);
        Due.is("one on the second", x.record(0, 2, 0, 4), 900);
        x.close(h);
        Due.is("behind the last one", x.record(0, 2, 1, 4), 404);
        Due.is("its number", x.record(0, 2, 1, 2), 2);
        Due.is("none more on the first", x.record(0, 1, 1, 4), CountKeyStore.NONE);
    }

    private static void exactRoom() {
        // A block of 1200 and one of 210 are all that a track takes.
        CountKeyStore x = with(1, 1, 0, 1200);
        int h = Due.open(x, "A", 1);
        Due.put(x, h, Due.row(1196, 0));
        Due.is("put", Due.put(x, h, Due.row(100, 0)), 1);
        Due.is("opened(h, 3)", x.opened(h, 3), 104);
        Due.is("105 more", Due.put(x, h, Due.row(105, 0)), CountKeyStore.FULL);
        Due.is("104 more", Due.put(x, h, Due.row(104, 0)), 1);
        Due.is("opened(h, 3)", x.opened(h, 3), 210);
        Due.is("nothing more", Due.put(x, h), CountKeyStore.FULL);
        x.close(h);
        x = with(1, 1, 0, 1200);
        h = Due.open(x, "A", 1);
        Due.is("a first one", Due.put(x, h), 1);
        Due.is("to the block's last byte", Due.put(x, h, Due.row(1194, 0)), 1);
        Due.is("opened(h, 3)", x.opened(h, 3), 1200);
        Due.is("not written", x.record(0, 1, 0, 0), CountKeyStore.NONE);
        // 1470 places: a piece may go on into a second block, but not into a third.
        x = with(2, 1, 0, 700);
        h = Due.open(x, "A", 1);
        Due.is("two blocks of 695", Due.put(x, h, Due.row(1200, 0)), 1);
        Due.is("opened(h, 3)", x.opened(h, 3), 510);
        Due.is("to the last byte of the second", Due.put(x, h, Due.row(188, 0)), CountKeyStore.FULL);
        Due.is("it is 1430 of both, and 10 are left", Due.put(x, h, Due.row(187, 0)), 1);
        Due.is("opened(h, 3)", x.opened(h, 3), 700);
        Due.is("not one byte more", Due.put(x, h, 1), CountKeyStore.FULL);
        Due.is("nor none", Due.put(x, h), CountKeyStore.FULL);
        // The longest record.
        x = with(2, 1, 0, 1200);
        h = Due.open(x, "A", 1);
        Due.is("1200 bytes", Due.put(x, h, Due.row(1200, 7)), 1);
        x.close(h);
        h = Due.open(x, "A", 0);
        Due.is("get", x.get(h), 1200);
        Due.holds("OUT", Due.outIs(x, Due.row(1200, 7)));
        // No piece is begun in three bytes: the block is written ahead.
        x = with(2, 2, 0, 9);
        h = Due.open(x, "A", 1);
        Due.is("put", Due.put(x, h, 1), 1);
        Due.is("three are free", x.opened(h, 3), 6);
        Due.is("put", Due.put(x, h), 1);
        Due.is("opened(h, 3)", x.opened(h, 3), 9);
    }

    private static void blocksOverTracks() {
        // Tracks 1 .. 2 and 4: the set's tracks are counted extent by extent.
        CountKeyStore x = new CountKeyStore();
        Due.allocate(x, "A", 0, 2, 1, 1);
        Due.allocate(x, "B", 0, 1, 1, 1);
        Due.fill(x, "A");
        x.scratch();
        Due.allocate(x, "C", 0, 3, 200, 3);
        int h = Due.open(x, "C", 1);
        for (int i = 0; i < 18; i++) {
            Due.is("put", Due.put(x, h, Due.row(200, i)), 1);
        }
        Due.is("put", Due.put(x, h, Due.row(200, 0)), CountKeyStore.FULL);
        x.close(h);
        for (int track : new int[] {1, 2, 4}) {
            Due.is("cylinder", x.record(0, track, 1, 0), track / 4);
            Due.is("head", x.record(0, track, 1, 1), track % 4);
            Due.is("number", x.record(0, track, 1, 2), 2);
        }
        Due.is("track 3 is B's", x.record(0, 3, 0, 0), CountKeyStore.NONE);
        Due.is("track 5 is free", x.record(0, 5, 0, 0), CountKeyStore.NONE);
        h = Due.open(x, "C", 0);
        for (int i = 0; i < 18; i++) {
            Due.is("get", x.get(h), 200);
            Due.holds("OUT", Due.outIs(x, Due.row(200, i)));
        }
        Due.is("get", x.get(h), CountKeyStore.NONE);
    }

    private static void opensToPutEmpty() {
        for (int kind = 0; kind < 3; kind++) {
            CountKeyStore x = with(kind, 2, kind == 0 ? 4 : 0, kind == 0 ? 2 : 20);
            int h = Due.open(x, "A", 1);
            Due.put(x, h, 1, 2, 3, 4);
            x.close(h);
            Due.holds("a block", x.record(0, 1, 0, 2) == 1);
            h = Due.open(x, "A", 2);
            Due.is("to change: it stays", x.record(0, 1, 0, 2), 1);
            Due.is("BUSY", Due.open(x, "A", 1), CountKeyStore.BUSY);
            Due.is("and nothing goes", x.record(0, 1, 0, 2), 1);
            x.close(h);
            for (int i = 0; i < 4; i++) {
                Due.allocate(x, "B", 0, 1, 1, 1);
                Due.open(x, "B", 0);
            }
            Due.is("FULL", Due.open(x, "A", 1), CountKeyStore.FULL);
            Due.is("and nothing goes", x.record(0, 1, 0, 2), 1);
            x.close(0);
            h = Due.open(x, "A", 1);
            Due.is("to put: it has no records", x.record(0, 1, 0, 2), CountKeyStore.NONE);
            x.close(h);
            Due.is("nor when it is closed", x.record(0, 1, 0, 2), CountKeyStore.NONE);
        }
    }

    private static void growsWhileOpen() {
        CountKeyStore x = with(0, 1, 200, 6);
        int h = Due.open(x, "A", 1);
        for (int i = 0; i < 6; i++) {
            Due.is("put", Due.put(x, h, Due.row(200, i)), 1);
        }
        Due.is("30 + 1230 + 240: 210 are free", Due.put(x, h, Due.row(200, 6)), 1);
        Due.is("not 400", Due.put(x, h, Due.row(200, 7)), CountKeyStore.FULL);
        Due.fill(x, "A");
        Due.is("extend", x.extend(1), 2);
        Due.is("put", Due.put(x, h, Due.row(200, 7)), 1);
        x.close(h);
        Due.is("on the new track", x.record(0, 2, 0, 4), 400);
        h = Due.open(x, "A", 0);
        for (int i = 0; i < 8; i++) {
            Due.is("get", x.get(h), 200);
            Due.holds("OUT", Due.outIs(x, Due.row(200, i)));
        }
        Due.is("get", x.get(h), CountKeyStore.NONE);
        Due.fill(x, "A");
        Due.is("extend", x.extend(1), 3);
        Due.is("get", x.get(h), CountKeyStore.NONE);
    }

    /** A FIXED set of records 1 .. n of one byte, b of them a block. */
    private static CountKeyStore numbers(int n, int b) {
        CountKeyStore x = with(0, 1, 1, b);
        int h = Due.open(x, "A", 1);
        for (int i = 1; i <= n; i++) {
            Due.put(x, h, i);
        }
        x.close(h);
        return x;
    }

    private static void getting() {
        CountKeyStore x = numbers(5, 2);
        Due.is("two readers", Due.open(x, "A", 0), 0);
        Due.is("two readers", Due.open(x, "A", 0), 1);
        Due.is("get(0)", x.get(0), 1);
        Due.is("get(0)", x.get(0), 1);
        Due.is("OUT", x.out(0), 2);
        Due.is("get(1)", x.get(1), 1);
        Due.is("OUT", x.out(0), 1);
        Due.is("out(1)", x.out(1), CountKeyStore.NONE);
        Due.is("out(-1)", x.out(-1), CountKeyStore.NONE);
        Due.is("get(0)", x.get(0), 1);
        Due.is("OUT", x.out(0), 3);
        x.close(0);
        Due.is("from the first on", Due.open(x, "A", 0), 0);
        Due.is("get(0)", x.get(0), 1);
        Due.is("OUT", x.out(0), 1);
    }

    private static void checks() {
        CountKeyStore x = numbers(6, 2);
        int h = Due.open(x, "A", 0);
        x.spoil(0, 1, 1);
        Due.is("get", x.get(h), 1);
        Due.is("get", x.get(h), 1);
        Due.is("the next block is spoiled", x.get(h), CountKeyStore.CHECK);
        Due.is("OUT stays", x.out(0), 2);
        Due.is("opened(h, 2)", x.opened(h, 2), 2);
        Due.is("it is passed over", x.get(h), 1);
        Due.is("OUT", x.out(0), 5);
        Due.is("get", x.get(h), 1);
        x.spoil(0, 1, 2);
        Due.is("nothing is left of that block", x.get(h), CountKeyStore.NONE);
        x.close(h);
        h = Due.open(x, "A", 0);
        Due.is("get", x.get(h), 1);
        Due.is("get", x.get(h), 1);
        Due.is("get", x.get(h), CountKeyStore.CHECK);
        Due.is("get", x.get(h), CountKeyStore.CHECK);
        Due.is("get", x.get(h), CountKeyStore.NONE);
    }

    private static void spoiledUnderWay() {
        // The next block is asked for its mark; the one of which a record was got already is not it.
        CountKeyStore x = numbers(7, 3);
        int h = Due.open(x, "A", 0);
        Due.is("get", x.get(h), 1);
        x.spoil(0, 1, 0);
        Due.is("the block under way", x.get(h), 1);
        Due.is("OUT", x.out(0), 2);
        Due.is("its last record", x.get(h), 1);
        Due.is("OUT", x.out(0), 3);
        Due.is("it is spoiled all the same", x.record(0, 1, 0, 6), 1);
        x.spoil(0, 1, 1);
        Due.is("the next block", x.get(h), CountKeyStore.CHECK);
        Due.is("OUT stays", x.out(0), 3);
        Due.is("the one behind it", x.get(h), 1);
        Due.is("OUT", x.out(0), 7);
        Due.is("opened(h, 2)", x.opened(h, 2), 4);
        int other = Due.open(x, "A", 0);
        Due.is("to another reader it is the next one", x.get(other), CountKeyStore.CHECK);
    }

    private static void spoiledUnderWayVariable() {
        CountKeyStore x = with(1, 1, 0, 10);
        int h = Due.open(x, "A", 1);
        Due.put(x, h, 1, 2, 3);
        Due.put(x, h);
        Due.put(x, h);
        Due.put(x, h);
        x.close(h);
        h = Due.open(x, "A", 2);
        Due.is("get", x.get(h), 3);
        x.spoil(0, 1, 0);
        Due.is("a record of 0 bytes in the block under way", x.get(h), 0);
        Due.is("rewrite", x.rewrite(h), 1);
        Due.is("makes it whole", x.record(0, 1, 0, 6), 0);
        Due.is("get", x.get(h), 0);
        x.spoil(0, 1, 1);
        Due.is("the last one", x.get(h), 0);
        Due.is("get", x.get(h), CountKeyStore.NONE);
    }

    private static void spoiledUnderWaySpanned() {
        CountKeyStore x = pieces();
        int h = Due.open(x, "A", 0);
        Due.is("get", x.get(h), 1);
        x.spoil(0, 1, 0);
        Due.is("its first piece is in the block under way", x.get(h), 8);
        Due.holds("OUT", Due.outIs(x, Due.row(8, 20)));
        x.close(h);
        x = pieces();
        h = Due.open(x, "A", 0);
        Due.is("get", x.get(h), 1);
        x.spoil(0, 1, 0);
        x.spoil(0, 1, 1);
        Due.is("but its second is in the next one", x.get(h), CountKeyStore.CHECK);
        Due.holds("OUT stays", Due.outIs(x, 1));
        Due.is("its last piece is passed over", x.get(h), 2);
        Due.holds("OUT", Due.outIs(x, 50, 51));
    }

    /** A SPANNED set, b 10: 1; 20 .. 27 in blocks 0, 1, 2; 50 51 in block 3. */
    private static CountKeyStore pieces() {
        CountKeyStore x = with(2, 1, 0, 10);
        int h = Due.open(x, "A", 1);
        Due.put(x, h, 1);
        Due.put(x, h, Due.row(8, 20));
        Due.put(x, h, 50, 51);
        x.close(h);
        return x;
    }

    private static void spannedChecks() {
        CountKeyStore x = pieces();
        x.spoil(0, 1, 1);
        int h = Due.open(x, "A", 2);
        Due.is("get", x.get(h), 1);
        Due.is("what had begun is passed over", x.get(h), CountKeyStore.CHECK);
        Due.holds("OUT stays", Due.outIs(x, 1));
        Due.fill(x, 9);
        Due.is("nothing to rewrite", x.rewrite(h), CountKeyStore.STATE);
        Due.is("its last piece too", x.get(h), 2);
        Due.holds("OUT", Due.outIs(x, 50, 51));
        x.close(h);
        x = pieces();
        x.spoil(0, 1, 0);
        h = Due.open(x, "A", 0);
        Due.is("get", x.get(h), CountKeyStore.CHECK);
        Due.is("pieces without their first one", x.get(h), 2);
        Due.holds("OUT", Due.outIs(x, 50, 51));
        x.close(h);
        x = pieces();
        x.spoil(0, 1, 2);
        x.spoil(0, 1, 3);
        h = Due.open(x, "A", 0);
        Due.is("get", x.get(h), 1);
        Due.is("its last piece", x.get(h), CountKeyStore.CHECK);
        Due.is("the next one", x.get(h), CountKeyStore.CHECK);
        Due.is("get", x.get(h), CountKeyStore.NONE);
        x.close(h);
        x = pieces();
        x.spoil(0, 1, 0);
        x.spoil(0, 1, 3);
        h = Due.open(x, "A", 0);
        Due.is("get", x.get(h), CountKeyStore.CHECK);
        Due.is("pieces, then a spoiled block", x.get(h), CountKeyStore.CHECK);
        Due.is("get", x.get(h), CountKeyStore.NONE);
    }

    private static void rewritingFixed() {
        CountKeyStore x = numbers(4, 2);
        int h = Due.open(x, "A", 2);
        Due.fill(x, 9);
        Due.is("nothing was got", x.rewrite(h), CountKeyStore.STATE);
        Due.is("count(3)", x.count(3), 0);
        x.get(h);
        x.get(h);
        Due.fill(x, 92);
        Due.is("rewrite", x.rewrite(h), 1);
        Due.holds("the block", Due.dataIs(x, 1, 0, 1, 92));
        Due.is("OUT stays", x.out(0), 2);
        Due.fill(x, 93, 94);
        Due.is("too long", x.rewrite(h), CountKeyStore.LENGTH);
        Due.is("too short", x.rewrite(h), CountKeyStore.LENGTH);
        Due.fill(x, 95);
        Due.is("once more", x.rewrite(h), 1);
        Due.holds("the block", Due.dataIs(x, 1, 0, 1, 95));
        x.spoil(0, 1, 0);
        Due.fill(x, 96);
        Due.is("rewrite", x.rewrite(h), 1);
        Due.is("it is whole again", x.record(0, 1, 0, 6), 0);
        Due.is("get", x.get(h), 1);
        Due.is("OUT", x.out(0), 3);
        Due.is("opened(h, 2)", x.opened(h, 2), 3);
        x.get(h);
        Due.is("get", x.get(h), CountKeyStore.NONE);
        Due.fill(x, 97);
        Due.is("get() told none", x.rewrite(h), CountKeyStore.STATE);
        x.close(h);
        h = Due.open(x, "A", 2);
        Due.fill(x, 98);
        Due.is("none since it was opened", x.rewrite(h), CountKeyStore.STATE);
        x.spoil(0, 1, 0);
        Due.is("get", x.get(h), CountKeyStore.CHECK);
        Due.fill(x, 98);
        Due.is("get() told none", x.rewrite(h), CountKeyStore.STATE);
        x.close(h);
        h = Due.open(x, "A", 0);
        x.get(h);
        x.get(h);
        Due.fill(x, 98);
        Due.is("open to get", x.rewrite(h), CountKeyStore.STATE);
        // On another track, in a block that is not its first, behind the first record.
        x = with(0, 2, 200, 3);
        h = Due.open(x, "A", 1);
        for (int i = 0; i < 12; i++) {
            Due.put(x, h, Due.row(200, i));
        }
        x.close(h);
        h = Due.open(x, "A", 2);
        for (int i = 0; i < 11; i++) {
            x.get(h);
        }
        Due.fill(x, Due.row(200, 100));
        Due.is("rewrite", x.rewrite(h), 1);
        for (int i = 0; i < 12; i++) {
            int at = 200 + i % 3 * 200;
            Due.is("record " + i, x.record(0, 1 + i / 6, i / 3 % 2, at), i == 10 ? 100 : i);
            Due.is("its end", x.record(0, 1 + i / 6, i / 3 % 2, at + 199), (i == 10 ? 100 : i) + 199 & 255);
        }
        Due.is("get", x.get(h), 200);
        Due.is("OUT", x.out(0), 11);
    }

    private static void rewritingVariable() {
        CountKeyStore x = with(1, 1, 0, 20);
        int h = Due.open(x, "A", 1);
        Due.put(x, h, 1, 2, 3);
        Due.put(x, h);
        Due.put(x, h, 4, 5);
        x.close(h);
        h = Due.open(x, "A", 2);
        x.get(h);
        x.get(h);
        Due.is("an empty one", x.rewrite(h), 1);
        x.get(h);
        Due.fill(x, 6, 7);
        Due.is("rewrite", x.rewrite(h), 1);
        Due.holds("the block", Due.dataIs(x, 1, 0, 0, 13, 0, 5, 1, 2, 3, 0, 2, 0, 4, 6, 7));
        x.spoil(0, 1, 0);
        Due.fill(x, 6, 7, 8);
        Due.is("a wrong length", x.rewrite(h), CountKeyStore.LENGTH);
        Due.is("it stays spoiled", x.record(0, 1, 0, 6), 1);
    }

    private static void rewritingSpanned() {
        CountKeyStore x = pieces();
        int h = Due.open(x, "A", 2);
        x.get(h);
        x.get(h);
        for (int k = 0; k < 4; k++) {
            x.spoil(0, 1, k);
        }
        Due.fill(x, Due.row(8, 120));
        Due.is("rewrite", x.rewrite(h), 1);
        Due.holds("block 0", Due.dataIs(x, 1, 0, 0, 10, 0, 4, 0, 1, 0, 4, 1, 120));
        Due.holds("block 1", Due.dataIs(x, 1, 1, 0, 10, 0, 8, 3, 121, 122, 123, 124, 125));
        Due.holds("block 2", Due.dataIs(x, 1, 2, 0, 7, 0, 5, 2, 126, 127));
        for (int k = 0; k < 4; k++) {
            Due.is("whole where it was written", x.record(0, 1, k, 6), k == 3 ? 1 : 0);
        }
        x.close(h);
        h = Due.open(x, "A", 0);
        x.get(h);
        Due.is("get", x.get(h), 8);
        Due.holds("OUT", Due.outIs(x, Due.row(8, 120)));
        Due.is("get", x.get(h), CountKeyStore.CHECK);
    }

    private static void counted() {
        CountKeyStore x = with(0, 1, 1, 2);
        int h = Due.open(x, "A", 1);
        Due.put(x, h, 1);
        Due.put(x, h, 1, 1);
        Due.put(x, h, 2);
        Due.put(x, h, 3);
        Due.is("three were put", x.opened(h, 2), 3);
        x.close(h);
        h = Due.open(x, "A", 0);
        Due.is("none yet", x.opened(h, 2), 0);
        x.get(h);
        x.get(h);
        x.get(h);
        x.get(h);
        Due.is("three were got", x.opened(h, 2), 3);
        Due.is("no block", x.opened(h, 3), 0);
    }
}
