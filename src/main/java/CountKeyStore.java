import java.util.Arrays;

/**
 * Count-key-data tracks, the channel programs that search them, and a volume of data sets above
 * them. The numbers of promises are those of the document.
 */
public final class CountKeyStore {
    public static final int NONE = -1;
    public static final int RANGE = -2;
    public static final int STATE = -3;
    public static final int FULL = -4;
    public static final int LENGTH = -5;
    public static final int CHECK = -6;
    public static final int TWICE = -7;
    public static final int BUSY = -8;

    private static final int UNITS = 2;
    private static final int CYLINDERS = 20;
    private static final int HEADS = 4;
    private static final int TRACKS = CYLINDERS * HEADS;
    private static final int PLACES = 1500;
    /** The places ahead of a track's first record, and those of a record beside its bytes. */
    private static final int GAP = 30;
    /** The places of a count, and of each gap that the heads pass inside a record. */
    private static final int STEP = 10;
    private static final int COUNT_BYTES = 6;
    /** Where, in a record's gap, its mark stands: right behind its count. */
    private static final int MARK = 6;
    /** As many as there are if none has any bytes. */
    private static final int MOST_RECORDS = (PLACES - GAP) / GAP;
    private static final int LONGEST_KEY = 60;
    private static final int LONGEST = 1200;

    private static final int MEMORY_BYTES = 2048;
    private static final int COMMANDS = 32;
    private static final int MOST_SETS = 10;
    private static final int MOST_EXTENTS = 4;
    private static final int MOST_OPEN = 4;
    private static final int MOST_MEMBERS = 40;
    private static final int MEMBERS_A_RECORD = 4;
    private static final int NAME_BYTES = 8;
    private static final int BLANK = 32;
    private static final int FED_BYTES = 20;
    private static final int LOOKED_AT = 4;
    /** More steps than any loop without a bound in the document can need. */
    private static final int FAR = 1000000;

    private static final int FIXED = 0;
    private static final int VARIABLE = 1;
    private static final int SPANNED = 2;
    private static final int DIRECT = 3;
    private static final int LIBRARY = 4;

    private static final int TO_GET = 0;
    private static final int TO_PUT = 1;
    private static final int TO_CHANGE = 2;

    private final Row buffer = new Row();
    private final Row got = new Row();
    private final Row work = new Row();
    private final byte[] name = new byte[NAME_BYTES];
    private final Unit[] units = new Unit[UNITS];
    private final Channel channel;
    private final Volume volume;
    private final Opening[] openings = new Opening[MOST_OPEN];

    /** Promise 1. */
    public CountKeyStore() {
        Unit first = new Unit();
        units[0] = first;
        units[1] = new Unit();
        channel = new Channel(first);
        volume = new Volume(first);
        for (int h = 0; h < MOST_OPEN; h++) {
            openings[h] = new Opening();
        }
    }

    // ---- the buffer

    /** Promise 2. */
    public int feed(int a, int b, int c, int d, int e) {
        if (buffer.size + FED_BYTES > LONGEST) {
            return FULL;
        }
        buffer.addWord(a);
        buffer.addWord(b);
        buffer.addWord(c);
        buffer.addWord(d);
        buffer.addWord(e);
        return buffer.size;
    }

    /** Promise 3. */
    public int end(int n) {
        if (n < 0 || n > buffer.size) {
            return NONE;
        }
        buffer.size = n;
        return n;
    }

    /** Promise 4. */
    public int out(int i) {
        return got.byteAt(i);
    }

    // ---- units and programs

    /** Promise 5. */
    public int command(int i, int op, int address, int length, int flags) {
        if (i < 0 || i >= COMMANDS || flags < 0 || flags > 7) {
            return RANGE;
        }
        channel.setCommand(i, op, address, length, flags);
        return 1;
    }

    /** Promise 6. */
    public int memory(int i) {
        return i < 0 || i >= MEMORY_BYTES ? RANGE : channel.byteAt(i);
    }

    /** Promise 7. */
    public int poke(int from) {
        int n = buffer.size;
        buffer.size = 0;
        if (from < 0 || from > MEMORY_BYTES - n) {
            return RANGE;
        }
        channel.fill(from, buffer.cells, n);
        return n;
    }

    /** Promise 8. */
    public int start(int unit) {
        Unit device = unitAt(unit);
        if (device == null) {
            return RANGE;
        }
        return channel.run(device, unit == 0);
    }

    /** Promise 9. */
    public int status(int what) {
        switch (what) {
            case 0: return channel.status;
            case 1: return channel.residual;
            case 2: return channel.endedAt;
            case 3: return channel.begun;
            default: return NONE;
        }
    }

    /** Promise 10. */
    public long time() {
        return channel.time;
    }

    /** Promise 11. */
    public int arm(int unit, int what) {
        Unit device = unitAt(unit);
        if (device == null || what < 0 || what > 1) {
            return RANGE;
        }
        return what == 0 ? device.cylinder : device.head;
    }

    /** Promise 12. */
    public int record(int unit, int track, int k, int what) {
        Track t = trackAt(unit, track);
        if (t == null || !t.has(k)) {
            return NONE;
        }
        switch (what) {
            case 0: case 1: case 2: return t.countByte(k, what);
            case 3: return t.keyLength(k);
            case 4: return t.dataLength(k);
            case 5: return t.beginOf(k);
            case 6: return t.isSpoiled(k) ? 1 : 0;
            default: return bytesOf(t, k, what);
        }
    }

    /** Promise 13. */
    public boolean spoil(int unit, int track, int k) {
        Track t = trackAt(unit, track);
        if (t == null || !t.has(k)) {
            return false;
        }
        t.mark(k, true);
        return true;
    }

    // ---- the volume

    /** Promise 14. */
    public int allocate(int kind, int tracks, int a, int b, boolean atOnce) {
        takeName();
        int least = kind == LIBRARY ? 2 : 1;
        if (!DataSet.allows(kind, a, b) || tracks < least || tracks >= TRACKS) {
            return RANGE;
        }
        if (volume.find(name) >= 0) {
            return TWICE;
        }
        int d = volume.lowestFree();
        if (d < 0) {
            return FULL;
        }
        boolean room = atOnce ? volume.findOneRun(tracks) : volume.findRuns(tracks, MOST_EXTENTS);
        if (!room) {
            return FULL;
        }
        volume.create(d, name, kind, a, b);
        return d;
    }

    /** Promise 15. */
    public int scratch() {
        takeName();
        int d = volume.find(name);
        DataSet set = volume.setAt(d);
        if (set == null) {
            return NONE;
        }
        if (openCount(d) > 0) {
            return BUSY;
        }
        volume.remove(set);
        return d;
    }

    /** Promise 16. */
    public int extend(int tracks) {
        takeName();
        if (tracks < 1 || tracks >= TRACKS) {
            return RANGE;
        }
        DataSet set = volume.setAt(volume.find(name));
        if (set == null) {
            return NONE;
        }
        if (set.kind == DIRECT) {
            return STATE;
        }
        if (!volume.findRuns(tracks, MOST_EXTENTS - set.extents)) {
            return FULL;
        }
        volume.giveRuns(set);
        volume.writeTable();
        return set.tracks();
    }

    /** Promise 17. */
    public int dataSet(int d, int what) {
        DataSet set = volume.setAt(d);
        if (set == null) {
            return NONE;
        }
        switch (what) {
            case 0: return set.kind;
            case 1: return set.a;
            case 2: return set.b;
            case 3: return set.tracks();
            case 4: return set.extents;
            case 5: return openCount(d);
            case 6: return set.members.size;
            default: return set.nameOrExtent(what);
        }
    }

    /** Promise 18. */
    public int count(int what) {
        switch (what) {
            case 0: return volume.freeTracks();
            case 1: return volume.setCount();
            case 2: return allOpen();
            case 3: return buffer.size;
            case 4: return got.size;
            default: return NONE;
        }
    }

    // ---- records

    /** Promise 19. */
    public int open(int mode) {
        takeName();
        if (mode < TO_GET || mode > TO_CHANGE) {
            return RANGE;
        }
        int d = volume.find(name);
        DataSet set = volume.setAt(d);
        if (set == null) {
            return NONE;
        }
        if (!set.opensWith(mode)) {
            return STATE;
        }
        if (isBusy(d, mode)) {
            return BUSY;
        }
        int h = lowestClosed();
        if (h < 0) {
            return FULL;
        }
        if (mode == TO_PUT && set.kind != LIBRARY) {
            set.empty();
        }
        openings[h].begin(set, d, mode);
        return h;
    }

    /** Promise 20. */
    public int close(int h) {
        Opening opening = openingAt(h);
        if (opening == null) {
            return NONE;
        }
        opening.finish();
        return 1;
    }

    /** Promise 21. */
    public int put(int h) {
        Opening opening = openingAt(h);
        int answer = opening == null ? NONE : opening.putRecord(buffer);
        buffer.size = 0;
        return answer;
    }

    /** Promise 22. */
    public int get(int h) {
        Opening opening = openingAt(h);
        return opening == null ? STATE : opening.getRecord(got, work);
    }

    /** Promise 23. */
    public int rewrite(int h) {
        Opening opening = openingAt(h);
        int answer = opening == null ? STATE : opening.rewriteRecord(buffer);
        buffer.size = 0;
        return answer;
    }

    /** Promise 24. */
    public int putKeyed(int h) {
        Opening opening = openingAt(h);
        int answer = opening == null ? STATE : opening.keepKeyed(buffer);
        buffer.size = 0;
        return answer;
    }

    /** Promise 25. */
    public int getKeyed(int h) {
        Opening opening = openingAt(h);
        int answer = opening == null ? STATE : opening.findKeyed(buffer, got);
        buffer.size = 0;
        return answer;
    }

    /** Promise 26. */
    public int member(int h) {
        takeName();
        Opening opening = openingAt(h);
        return opening == null ? STATE : opening.choose(name);
    }

    /** Promise 27. */
    public int stow(int h) {
        takeName();
        Opening opening = openingAt(h);
        if (opening == null) {
            return STATE;
        }
        int answer = opening.stowMember(name);
        if (answer >= 0 && opening.set != null) {
            volume.writeList(opening.set);
        }
        return answer;
    }

    /** Promise 28. */
    public int memberAt(int d, int i) {
        DataSet set = libraryAt(d);
        if (set == null || !set.members.has(i)) {
            return NONE;
        }
        got.size = 0;
        got.addAll(set.members.names, i * NAME_BYTES, NAME_BYTES);
        return NAME_BYTES;
    }

    /** Promise 29. */
    public int drop(int d, int i) {
        DataSet set = libraryAt(d);
        if (set == null || !set.members.has(i)) {
            return NONE;
        }
        if (isOpenTo(d, TO_PUT)) {
            return BUSY;
        }
        set.members.remove(i);
        volume.writeList(set);
        return set.members.size;
    }

    /** Promise 30. */
    public int press(int d) {
        DataSet set = libraryAt(d);
        if (set == null) {
            return NONE;
        }
        if (openCount(d) > 0) {
            return BUSY;
        }
        return volume.pressTogether(set);
    }

    /** Promise 31. */
    public int opened(int h, int what) {
        Opening opening = openingAt(h);
        if (opening == null) {
            return NONE;
        }
        switch (what) {
            case 0: return opening.number;
            case 1: return opening.mode;
            case 2: return opening.records;
            case 3: return opening.maker.block.size;
            default: return NONE;
        }
    }

    // ---- what the calls share

    /** The name in the buffer, which is empty then. */
    private void takeName() {
        Arrays.fill(name, (byte) BLANK);
        System.arraycopy(buffer.cells, 0, name, 0, Math.min(buffer.size, NAME_BYTES));
        buffer.size = 0;
    }

    private Unit unitAt(int unit) {
        return unit < 0 || unit >= UNITS ? null : units[unit];
    }

    private Track trackAt(int unit, int track) {
        Unit device = unitAt(unit);
        return device == null ? null : device.trackAt(track);
    }

    private static int bytesOf(Track t, int k, int what) {
        if (what >= 200) {
            int ofData = what - 200;
            return ofData < t.dataLength(k) ? t.byteOf(k, t.keyLength(k) + ofData) : NONE;
        }
        if (what >= 100) {
            int ofKey = what - 100;
            return ofKey < t.keyLength(k) ? t.byteOf(k, ofKey) : NONE;
        }
        return NONE;
    }

    private DataSet libraryAt(int d) {
        DataSet set = volume.setAt(d);
        return set == null || set.kind != LIBRARY ? null : set;
    }

    private Opening openingAt(int h) {
        if (h < 0 || h >= MOST_OPEN || !openings[h].isOpen()) {
            return null;
        }
        return openings[h];
    }

    private int lowestClosed() {
        for (int h = 0; h < MOST_OPEN; h++) {
            if (!openings[h].isOpen()) {
                return h;
            }
        }
        return NONE;
    }

    private int allOpen() {
        int n = 0;
        for (int h = 0; h < MOST_OPEN; h++) {
            n += openings[h].isOpen() ? 1 : 0;
        }
        return n;
    }

    private int openCount(int d) {
        int n = 0;
        for (int h = 0; h < MOST_OPEN; h++) {
            n += openings[h].isOf(d) ? 1 : 0;
        }
        return n;
    }

    private boolean isOpenTo(int d, int mode) {
        for (int h = 0; h < MOST_OPEN; h++) {
            if (openings[h].isOf(d) && openings[h].mode == mode) {
                return true;
            }
        }
        return false;
    }

    private boolean isBusy(int d, int mode) {
        if (mode != TO_GET) {
            return openCount(d) > 0;
        }
        return isOpenTo(d, TO_PUT) || isOpenTo(d, TO_CHANGE);
    }

    // ---- the parts

    /** Bytes one behind the other, of which the first so many count. */
    private static final class Row {
        final byte[] cells = new byte[LONGEST];
        int size;

        int byteAt(int i) {
            return i < 0 || i >= size || i >= LONGEST ? NONE : cells[i] & 255;
        }

        void addByte(int value) {
            if (size < 0 || size >= LONGEST) {
                return;
            }
            cells[size] = (byte) value;
            size++;
        }

        void addPair(int value) {
            addByte(value >> 8);
            addByte(value);
        }

        void addWord(int value) {
            addPair(value >> 16);
            addPair(value);
        }

        void addAll(byte[] source, int from, int n) {
            if (n < 0 || n > LONGEST - size || from < 0 || from > source.length - n) {
                return;
            }
            System.arraycopy(source, from, cells, size, n);
            size += n;
        }

        void setPair(int i, int value) {
            if (i < 0 || i + 1 >= LONGEST) {
                return;
            }
            cells[i] = (byte) (value >> 8);
            cells[i + 1] = (byte) value;
        }
    }

    /**
     * A track. A record's count and its mark stand at the beginning of its own places, its key and
     * data behind its gap.
     */
    private static final class Track {
        /** Made with the first record only: most tracks of most objects never have one. */
        private byte[] cells;
        /** Where each record begins and, behind these, where the next one would. */
        private final int[] begins = new int[MOST_RECORDS + 1];
        private int size;

        Track() {
            begins[0] = GAP;
        }

        int records() {
            return size;
        }

        boolean has(int k) {
            return k >= 0 && k < size;
        }

        int beginOf(int k) {
            return k >= 0 && k < size ? begins[k] : NONE;
        }

        /** The place behind a record; behind the home, if there is none such. */
        int endOf(int k) {
            return has(k) ? begins[k + 1] : GAP;
        }

        int lastEnd() {
            return begins[size];
        }

        boolean hasRoom(int bytes) {
            return begins[size] + GAP + bytes <= PLACES;
        }

        void keepFirst(int n) {
            if (n >= 0 && n < size) {
                size = n;
            }
        }

        /** A new record behind the others, all its bytes 0: its index, or none if it has no room. */
        int append(int cylinder, int head, int number, int keyLength, int dataLength) {
            int bytes = keyLength + dataLength;
            if (keyLength < 0 || dataLength < 0 || size >= MOST_RECORDS || !hasRoom(bytes)) {
                return NONE;
            }
            if (cells == null) {
                cells = new byte[PLACES];
            }
            int begin = begins[size];
            int behind = begin + GAP + bytes;
            Arrays.fill(cells, begin, behind, (byte) 0);
            cells[begin] = (byte) cylinder;
            cells[begin + 1] = (byte) head;
            cells[begin + 2] = (byte) number;
            cells[begin + 3] = (byte) keyLength;
            cells[begin + 4] = (byte) (dataLength >> 8);
            cells[begin + 5] = (byte) dataLength;
            size++;
            begins[size] = behind;
            return size - 1;
        }

        int countByte(int k, int i) {
            if (cells == null || !has(k) || i < 0 || i >= COUNT_BYTES) {
                return 0;
            }
            return cells[begins[k] + i] & 255;
        }

        int keyLength(int k) {
            return countByte(k, 3);
        }

        int dataLength(int k) {
            return countByte(k, 4) * 256 + countByte(k, 5);
        }

        /** How many bytes the key and the data have together. */
        int bytes(int k) {
            return has(k) ? begins[k + 1] - begins[k] - GAP : 0;
        }

        /** Byte i of the key and the data behind it. */
        int byteOf(int k, int i) {
            if (cells == null || !has(k) || i < 0 || i >= begins[k + 1] - begins[k] - GAP) {
                return 0;
            }
            return cells[begins[k] + GAP + i] & 255;
        }

        int pairOf(int k, int i) {
            return byteOf(k, i) * 256 + byteOf(k, i + 1);
        }

        boolean isSpoiled(int k) {
            return cells != null && has(k) && cells[begins[k] + MARK] != 0;
        }

        void mark(int k, boolean spoiled) {
            if (cells != null && has(k)) {
                cells[begins[k] + MARK] = (byte) (spoiled ? 1 : 0);
            }
        }

        /** n bytes of a row become those of the key and the data from one on. */
        void store(int k, int to, byte[] source, int from, int n) {
            if (cells == null || !hasBytes(k, to, n) || from < 0 || from > source.length - n) {
                return;
            }
            System.arraycopy(source, from, cells, begins[k] + GAP + to, n);
        }

        /** n bytes of the key and the data, from one on, come to a row. */
        void fetch(int k, int from, byte[] target, int to, int n) {
            if (cells == null || !hasBytes(k, from, n) || to < 0 || to > target.length - n) {
                return;
            }
            System.arraycopy(cells, begins[k] + GAP + from, target, to, n);
        }

        void clear(int k, int from, int n) {
            if (cells == null || !hasBytes(k, from, n)) {
                return;
            }
            int first = begins[k] + GAP + from;
            Arrays.fill(cells, first, first + n, (byte) 0);
        }

        private boolean hasBytes(int k, int from, int n) {
            return has(k) && from >= 0 && n >= 0 && from <= begins[k + 1] - begins[k] - GAP - n;
        }

        /** The first record that begins at a place or behind it. */
        int firstFrom(int place) {
            for (int k = 0; k < size; k++) {
                if (begins[k] >= place) {
                    return k;
                }
            }
            return NONE;
        }

        /** Below, at or above 0, as the key's first n bytes are below, the same as or above a row's. */
        int compareKey(int k, byte[] with, int from, int n) {
            for (int i = 0; i < n && from >= 0 && i < with.length - from; i++) {
                int difference = byteOf(k, i) - (with[from + i] & 255);
                if (difference != 0) {
                    return difference;
                }
            }
            return 0;
        }

        boolean hasKey(int k, byte[] key, int from, int n) {
            return keyLength(k) == n && compareKey(k, key, from, n) == 0;
        }

        int findKey(byte[] key, int n) {
            for (int k = 0; k < size; k++) {
                if (hasKey(k, key, 0, n)) {
                    return k;
                }
            }
            return NONE;
        }

        void copyOf(Track other) {
            size = 0;
            for (int k = 0; k < other.size; k++) {
                appendCopy(other, k, other.countByte(k, 0), other.countByte(k, 1), other.countByte(k, 2));
            }
        }

        /** A record of another track, with its mark, behind the others. */
        void appendCopy(Track other, int k, int cylinder, int head, int number) {
            int mine = append(cylinder, head, number, other.keyLength(k), other.dataLength(k));
            if (mine < 0 || other.cells == null || other.bytes(k) != bytes(mine)) {
                return;
            }
            store(mine, 0, other.cells, other.beginOf(k) + GAP, bytes(mine));
            mark(mine, other.isSpoiled(k));
        }
    }

    /** A unit: its tracks and its arm. */
    private static final class Unit {
        private final Track[] tracks = new Track[TRACKS];
        int cylinder;
        int head;

        Unit() {
            for (int i = 0; i < TRACKS; i++) {
                tracks[i] = new Track();
            }
        }

        Track trackAt(int i) {
            return i < 0 || i >= TRACKS ? null : tracks[i];
        }
    }

    private static final class Command {
        int op;
        int address;
        int length;
        int flags;

        boolean chains() {
            return (flags & 1) != 0;
        }

        boolean takesAny() {
            return (flags & 2) != 0;
        }

        boolean drops() {
            return (flags & 4) != 0;
        }
    }

    /** The memory, the program, and what a program does with a unit. */
    private static final class Channel {
        private static final int SEEK = 1;
        private static final int HEAD = 2;
        private static final int HOME = 3;
        private static final int ID = 4;
        private static final int KEY = 5;
        private static final int HIGH = 6;
        private static final int JUMP = 7;
        private static final int READ_COUNT = 8;
        private static final int READ_KEY = 9;
        private static final int READ_DATA = 10;
        private static final int READ_ALL = 11;
        private static final int WRITE_DATA = 12;
        private static final int WRITE_KEY = 13;
        private static final int WRITE_RECORD = 14;
        private static final int ERASE = 15;
        private static final int NOTHING = 16;

        private static final int NORMAL = 0;
        private static final int NO_RECORD = 1;
        private static final int TRACK_FULL = 2;
        private static final int WRONG_LENGTH = 3;
        private static final int BAD_PROGRAM = 4;
        private static final int DATA_CHECK = 5;
        private static final int BAD_PLACE = 6;
        private static final int BAD_COUNT = 7;
        private static final int PROTECTED = 8;

        private static final int NOWHERE = 0;
        private static final int AT_HOME = 1;
        private static final int AT_COUNT = 2;
        private static final int BEHIND_KEY = 3;
        private static final int AT_END = 4;

        private static final int MOST_PASSES = 2;

        private final byte[] cells = new byte[MEMORY_BYTES];
        private final Command[] commands = new Command[COMMANDS];
        private Unit unit;
        private int next;
        private int point;
        private int pointed;
        private int passes;
        long time;
        int status;
        int residual;
        int endedAt = NONE;
        int begun;

        Channel(Unit first) {
            unit = first;
            for (int i = 0; i < COMMANDS; i++) {
                commands[i] = new Command();
            }
        }

        void setCommand(int i, int op, int address, int length, int flags) {
            if (i < 0 || i >= COMMANDS) {
                return;
            }
            Command c = commands[i];
            c.op = op;
            c.address = address;
            c.length = length;
            c.flags = flags;
        }

        int byteAt(int i) {
            return i < 0 || i >= MEMORY_BYTES ? 0 : cells[i] & 255;
        }

        void fill(int from, byte[] source, int n) {
            if (n >= 0 && n <= source.length && from >= 0 && from <= MEMORY_BYTES - n) {
                System.arraycopy(source, 0, cells, from, n);
            }
        }

        // ---- the check

        /** How many commands the program has; more than there are, if the last one chains. */
        private int programLength() {
            for (int i = 0; i < COMMANDS; i++) {
                if (!commands[i].chains()) {
                    return i + 1;
                }
            }
            return COMMANDS + 1;
        }

        private boolean passesCheck(int length) {
            if (length > COMMANDS) {
                return false;
            }
            for (int i = 0; i < length; i++) {
                if (!isAllowed(i)) {
                    return false;
                }
            }
            return true;
        }

        private boolean isAllowed(int i) {
            Command c = commands[i];
            if (c.op < SEEK || c.op > NOTHING) {
                return false;
            }
            return (!usesMemory(c.op) || isInMemory(c)) && hasItsLength(c) && standsRight(i);
        }

        private static boolean usesMemory(int op) {
            return op != JUMP && op != ERASE && op != NOTHING;
        }

        private static boolean isInMemory(Command c) {
            return c.address >= 0 && c.length >= 0 && c.length <= MEMORY_BYTES
                    && c.address <= MEMORY_BYTES - c.length;
        }

        private static boolean hasItsLength(Command c) {
            switch (c.op) {
                case SEEK: case HOME: return c.length == 2;
                case HEAD: return c.length == 1;
                case ID: return c.length == 3;
                case KEY: case HIGH: return c.length >= 1 && c.length <= LONGEST_KEY;
                case WRITE_RECORD: return c.length >= COUNT_BYTES;
                default: return true;
            }
        }

        private boolean standsRight(int i) {
            int leader = leaderOf(i);
            switch (opAt(i)) {
                case JUMP: return isSearch(opAt(i - 1)) && commands[i].address == i - 1;
                case WRITE_DATA: return leader == ID || leader == KEY || leader == HIGH;
                case WRITE_KEY: return leader == ID;
                case WRITE_RECORD: case ERASE: return isSearch(leader) || opAt(i - 1) == WRITE_RECORD;
                default: return true;
            }
        }

        /** The operation of the search that leads a command; none of them, if none does. */
        private int leaderOf(int i) {
            return opAt(i - 1) == JUMP ? opAt(i - 2) : NONE;
        }

        private int opAt(int i) {
            return i < 0 || i >= COMMANDS ? NONE : commands[i].op;
        }

        private static boolean isSearch(int op) {
            return op >= HOME && op <= HIGH;
        }

        private boolean writes(int length) {
            for (int i = 0; i < length && i < COMMANDS; i++) {
                if (commands[i].op >= WRITE_DATA && commands[i].op <= ERASE) {
                    return true;
                }
            }
            return false;
        }

        // ---- the run

        int run(Unit device, boolean isProtected) {
            reset(device);
            int length = programLength();
            if (!passesCheck(length)) {
                status = BAD_PROGRAM;
                return status;
            }
            if (isProtected && writes(length)) {
                status = PROTECTED;
                return status;
            }
            for (int step = 0; step < FAR && next >= 0 && next < length && next < COMMANDS; step++) {
                Command c = commands[next];
                endedAt = next;
                residual = 0;
                begun++;
                next++;
                perform(c);
                if (!isSearch(c.op) && c.op != JUMP && c.op != NOTHING) {
                    passes = 0;
                }
            }
            return status;
        }

        private void reset(Unit device) {
            unit = device;
            next = 0;
            passes = 0;
            status = NORMAL;
            residual = 0;
            endedAt = NONE;
            begun = 0;
            setPoint(NOWHERE, NONE);
        }

        private void perform(Command c) {
            switch (c.op) {
                case SEEK: seek(c); break;
                case HEAD: chooseHead(c); break;
                case HOME: searchHome(c); break;
                case ID: searchId(c); break;
                case KEY: case HIGH: searchKey(c); break;
                case JUMP: next = c.address; break;
                case READ_COUNT: readCount(c); break;
                case READ_KEY: readKey(c); break;
                case READ_DATA: readData(c); break;
                case READ_ALL: readAll(c); break;
                case WRITE_DATA: writeData(c); break;
                case WRITE_KEY: writeKey(c); break;
                case WRITE_RECORD: writeRecord(c); break;
                case ERASE: erase(); break;
                default: break;
            }
        }

        private void stop(int why) {
            status = why;
            next = COMMANDS;
        }

        private void setPoint(int where, int k) {
            point = where;
            pointed = k;
        }

        private Track track() {
            return unit.tracks[(unit.cylinder * HEADS + unit.head) % TRACKS];
        }

        private int place() {
            return (int) (time % PLACES);
        }

        private void goTo(int place) {
            time += (place - time % PLACES + PLACES) % PLACES;
        }

        // ---- the arm

        private void seek(Command c) {
            int cylinder = byteAt(c.address);
            int head = byteAt(c.address + 1);
            if (cylinder >= CYLINDERS || head >= HEADS) {
                stop(BAD_PLACE);
                return;
            }
            if (cylinder != unit.cylinder) {
                time += 50 + 20 * Math.abs(cylinder - unit.cylinder);
            }
            unit.cylinder = cylinder;
            unit.head = head;
            setPoint(NOWHERE, NONE);
        }

        private void chooseHead(Command c) {
            int head = byteAt(c.address);
            if (head >= HEADS) {
                stop(BAD_PLACE);
                return;
            }
            unit.head = head;
            setPoint(NOWHERE, NONE);
        }

        // ---- the searches

        private void skipIf(boolean holds) {
            if (holds) {
                next++;
            }
        }

        private void searchHome(Command c) {
            goTo(0);
            time += GAP;
            setPoint(AT_HOME, NONE);
            boolean holds = byteAt(c.address) == unit.cylinder && byteAt(c.address + 1) == unit.head;
            skipIf(holds);
            if (!holds) {
                passes++;
                if (passes >= MOST_PASSES) {
                    stop(NO_RECORD);
                }
            }
        }

        private void searchId(Command c) {
            int k = nextRecord();
            if (k < 0) {
                return;
            }
            time += STEP;
            setPoint(AT_COUNT, k);
            boolean holds = true;
            for (int i = 0; i < 3; i++) {
                holds = holds && track().countByte(k, i) == byteAt(c.address + i);
            }
            skipIf(holds);
        }

        private void searchKey(Command c) {
            int k = countPassed();
            if (k < 0) {
                return;
            }
            Track t = track();
            time += STEP + t.keyLength(k);
            setPoint(BEHIND_KEY, k);
            int order = t.compareKey(k, cells, c.address, c.length);
            boolean wanted = c.op == HIGH ? order >= 0 : order == 0;
            skipIf(t.keyLength(k) == c.length && wanted);
        }

        /** The next record; none, and the program has ended, when there is none. */
        private int nextRecord() {
            for (int turn = 0; turn <= MOST_PASSES; turn++) {
                int k = track().firstFrom(place());
                if (k >= 0) {
                    goTo(track().beginOf(k));
                    return k;
                }
                time += PLACES - place();
                passes++;
                if (passes >= MOST_PASSES) {
                    stop(NO_RECORD);
                    return NONE;
                }
            }
            return NONE;
        }

        /** The record whose count the heads have passed right now, else the next one. */
        private int countPassed() {
            if (point == AT_COUNT) {
                return pointed;
            }
            int k = nextRecord();
            if (k >= 0) {
                time += STEP;
            }
            return k;
        }

        /** The record whose key the heads have passed right now, else that of the count. */
        private int keyPassed() {
            if (point == BEHIND_KEY) {
                return pointed;
            }
            int k = countPassed();
            if (k >= 0) {
                time += STEP + track().keyLength(k);
            }
            return k;
        }

        // ---- reading

        private void readCount(Command c) {
            int k = nextRecord();
            if (k < 0) {
                return;
            }
            time += STEP;
            setPoint(AT_COUNT, k);
            deliver(c, k, COUNT_BYTES, 0, 0);
            settleLength(c, COUNT_BYTES);
        }

        private void readKey(Command c) {
            int k = countPassed();
            if (k < 0) {
                return;
            }
            int bytes = track().bytes(k);
            time += STEP + bytes + STEP;
            deliver(c, k, 0, 0, bytes);
            settleRead(c, k, bytes);
        }

        private void readData(Command c) {
            int k = keyPassed();
            if (k < 0) {
                return;
            }
            int bytes = track().dataLength(k);
            time += bytes + STEP;
            deliver(c, k, 0, track().keyLength(k), bytes);
            settleRead(c, k, bytes);
        }

        private void readAll(Command c) {
            int k = nextRecord();
            if (k < 0) {
                return;
            }
            int bytes = track().bytes(k);
            time += GAP + bytes;
            deliver(c, k, COUNT_BYTES, 0, bytes);
            settleRead(c, k, COUNT_BYTES + bytes);
        }

        /** The first bytes of a count, and of the key and the data from one on, to memory. */
        private void deliver(Command c, int k, int ofCount, int from, int bytes) {
            if (c.drops()) {
                return;
            }
            int counted = Math.min(c.length, ofCount);
            for (int i = 0; i < counted && isInMemory(c); i++) {
                cells[c.address + i] = (byte) track().countByte(k, i);
            }
            int rest = Math.min(c.length - counted, bytes);
            track().fetch(k, from, cells, c.address + counted, rest);
        }

        private void settleRead(Command c, int k, int bytes) {
            setPoint(NOWHERE, NONE);
            settleLength(c, bytes);
            if (track().isSpoiled(k)) {
                stop(DATA_CHECK);
            }
        }

        private void settleLength(Command c, int bytes) {
            residual = Math.max(0, c.length - bytes);
            if (c.length != bytes && !c.takesAny()) {
                stop(WRONG_LENGTH);
            }
        }

        // ---- writing

        private void writeData(Command c) {
            int k = keyPassed();
            if (k < 0) {
                return;
            }
            int bytes = track().dataLength(k);
            time += bytes + STEP;
            replace(c, k, track().keyLength(k), bytes);
        }

        private void writeKey(Command c) {
            int k = countPassed();
            if (k < 0) {
                return;
            }
            int bytes = track().bytes(k);
            time += STEP + bytes + STEP;
            replace(c, k, 0, bytes);
        }

        private void replace(Command c, int k, int from, int bytes) {
            Track t = track();
            t.clear(k, from, bytes);
            t.store(k, from, cells, c.address, Math.min(c.length, bytes));
            t.mark(k, false);
            setPoint(NOWHERE, NONE);
            settleLength(c, bytes);
        }

        /** How many records stay when all behind the point are gone. */
        private int keptAtPoint() {
            return point == AT_HOME ? 0 : pointed + 1;
        }

        private void writeRecord(Command c) {
            int keyLength = byteAt(c.address + 3);
            int dataLength = byteAt(c.address + 4) * 256 + byteAt(c.address + 5);
            if (keyLength > LONGEST_KEY || dataLength > LONGEST) {
                stop(BAD_COUNT);
                return;
            }
            Track t = track();
            int kept = keptAtPoint();
            int bytes = keyLength + dataLength;
            if (t.endOf(kept - 1) + GAP + bytes > PLACES) {
                stop(TRACK_FULL);
                return;
            }
            t.keepFirst(kept);
            int k = t.append(byteAt(c.address), byteAt(c.address + 1), byteAt(c.address + 2),
                    keyLength, dataLength);
            int given = Math.min(c.length - COUNT_BYTES, bytes);
            t.store(k, 0, cells, c.address + COUNT_BYTES, given);
            goTo(t.endOf(k));
            setPoint(AT_END, k);
            settleLength(c, COUNT_BYTES + bytes);
        }

        private void erase() {
            int kept = keptAtPoint();
            track().keepFirst(kept);
            goTo(track().endOf(kept - 1));
            setPoint(NOWHERE, NONE);
        }
    }

    /** The members of a library, by name. */
    private static final class Members {
        final byte[] names = new byte[MOST_MEMBERS * NAME_BYTES];
        final int[] tracks = new int[MOST_MEMBERS];
        final int[] numbers = new int[MOST_MEMBERS];
        final int[] blocks = new int[MOST_MEMBERS];
        int size;

        boolean has(int i) {
            return i >= 0 && i < size && i < MOST_MEMBERS;
        }

        int find(byte[] name) {
            int i = placeOf(name);
            return has(i) && compare(i, name) == 0 ? i : NONE;
        }

        /** The first member whose name is not below this one. */
        int placeOf(byte[] name) {
            for (int i = 0; i < size && i < MOST_MEMBERS; i++) {
                if (compare(i, name) >= 0) {
                    return i;
                }
            }
            return size;
        }

        private int compare(int i, byte[] name) {
            for (int j = 0; j < NAME_BYTES && j < name.length && has(i); j++) {
                int difference = (names[i * NAME_BYTES + j] & 255) - (name[j] & 255);
                if (difference != 0) {
                    return difference;
                }
            }
            return 0;
        }

        /** Room for a member of this name at its place among the others, where it has that. */
        void insert(int i, byte[] name) {
            if (i < 0 || i > size || size >= MOST_MEMBERS || name.length < NAME_BYTES) {
                return;
            }
            move(i, i + 1, size - i);
            System.arraycopy(name, 0, names, i * NAME_BYTES, NAME_BYTES);
            size++;
        }

        void remove(int i) {
            if (has(i)) {
                move(i + 1, i, size - i - 1);
                size--;
            }
        }

        private void move(int from, int to, int n) {
            if (n < 0 || from < 0 || to < 0 || from > MOST_MEMBERS - n || to > MOST_MEMBERS - n) {
                return;
            }
            System.arraycopy(names, from * NAME_BYTES, names, to * NAME_BYTES, n * NAME_BYTES);
            System.arraycopy(tracks, from, tracks, to, n);
            System.arraycopy(numbers, from, numbers, to, n);
            System.arraycopy(blocks, from, blocks, to, n);
        }

        void setBegin(int i, int track, int number) {
            if (has(i)) {
                tracks[i] = track;
                numbers[i] = number;
            }
        }

        void setBlocks(int i, int n) {
            if (has(i)) {
                blocks[i] = n;
            }
        }

        int blocksOf(int i) {
            return has(i) ? blocks[i] : 0;
        }

        /** The member whose blocks begin with this one. */
        int beginningAt(int track, int number) {
            for (int i = 0; i < size && i < MOST_MEMBERS; i++) {
                if (blocks[i] > 0 && tracks[i] == track && numbers[i] == number) {
                    return i;
                }
            }
            return NONE;
        }
    }

    private static final class DataSet {
        private static final int WHOLE = 0;
        private static final int FIRST = 1;
        private static final int LAST = 2;

        private final Unit unit;
        final byte[] name = new byte[NAME_BYTES];
        final int[] firsts = new int[MOST_EXTENTS];
        final int[] many = new int[MOST_EXTENTS];
        final Members members = new Members();
        boolean used;
        int kind;
        int a;
        int b;
        int extents;

        DataSet(Unit device) {
            unit = device;
        }

        static boolean allows(int kind, int a, int b) {
            switch (kind) {
                case FIXED: case LIBRARY:
                    return a >= 1 && a <= 200 && b >= 1 && b <= 20 && a * b <= LONGEST;
                case VARIABLE: case SPANNED:
                    return a == 0 && b >= 8 && b <= LONGEST;
                case DIRECT:
                    return a >= 1 && a <= 8 && b >= 0 && b <= 400;
                default:
                    return false;
            }
        }

        boolean opensWith(int mode) {
            return !(kind == LIBRARY && mode == TO_CHANGE) && !(kind == DIRECT && mode == TO_PUT);
        }

        boolean isNamed(byte[] other) {
            for (int i = 0; i < NAME_BYTES && i < other.length; i++) {
                if (name[i] != other[i]) {
                    return false;
                }
            }
            return true;
        }

        int nameOrExtent(int what) {
            if (what >= 10 && what < 10 + NAME_BYTES) {
                return name[what - 10] & 255;
            }
            if (what < 20 || what >= 20 + 2 * extents || what >= 20 + 2 * MOST_EXTENTS) {
                return NONE;
            }
            int e = (what - 20) / 2;
            return what % 2 == 0 ? firsts[e] : many[e];
        }

        // ---- its tracks

        int tracks() {
            int n = 0;
            for (int e = 0; e < extents && e < MOST_EXTENTS; e++) {
                n += many[e];
            }
            return n;
        }

        /** The unit's number of track i of the set. */
        int numberOf(int i) {
            int left = i;
            for (int e = 0; i >= 0 && e < extents && e < MOST_EXTENTS; e++) {
                if (left < many[e]) {
                    return firsts[e] + left;
                }
                left -= many[e];
            }
            return NONE;
        }

        Track trackAt(int i) {
            return unit.trackAt(numberOf(i));
        }

        /** A run of tracks more, as part of the last extent where it begins right behind that. */
        void addRun(int first, int n) {
            int last = extents - 1;
            if (last >= 0 && last < MOST_EXTENTS && firsts[last] + many[last] == first) {
                many[last] += n;
            } else if (extents >= 0 && extents < MOST_EXTENTS) {
                firsts[extents] = first;
                many[extents] = n;
                extents++;
            }
        }

        void empty() {
            int n = tracks();
            for (int i = 0; i < n; i++) {
                Track t = trackAt(i);
                if (t != null) {
                    t.keepFirst(0);
                }
            }
        }

        // ---- its blocks

        /** The first of the tracks on which blocks lie. */
        int firstBlockTrack() {
            return kind == LIBRARY ? 1 : 0;
        }

        /** The track of the last block; the first for blocks, if there is none. */
        int lastBlockTrack() {
            for (int i = tracks() - 1; i > firstBlockTrack(); i--) {
                Track t = trackAt(i);
                if (t != null && t.records() > 0) {
                    return i;
                }
            }
            return firstBlockTrack();
        }

        /** The first track from one on with room for a block. */
        int roomFrom(int from, int bytes) {
            int n = tracks();
            for (int i = from; i < n; i++) {
                Track t = trackAt(i);
                if (t != null && t.hasRoom(bytes)) {
                    return i;
                }
            }
            return NONE;
        }

        /** Bytes ahead of a block's records. */
        int blockLead() {
            return kind == VARIABLE || kind == SPANNED ? 2 : 0;
        }

        /** Bytes ahead of a record in a block, or of a piece. */
        int pieceLead() {
            if (kind == SPANNED) {
                return 3;
            }
            return kind == VARIABLE ? 2 : 0;
        }

        /** How many bytes the piece at an offset of a block has, with those ahead. */
        int pieceLength(Track t, int k, int offset) {
            int told = pieceLead() == 0 ? a : t.pairOf(k, offset);
            return Math.max(Math.max(1, pieceLead()), told);
        }

        int pieceType(Track t, int k, int offset) {
            return kind == SPANNED ? t.byteOf(k, offset + 2) : WHOLE;
        }

        static boolean begins(int type) {
            return type == WHOLE || type == FIRST;
        }

        static boolean ends(int type) {
            return type == WHOLE || type == LAST;
        }

        static int typeOf(boolean begins, boolean ends) {
            if (begins) {
                return ends ? WHOLE : FIRST;
            }
            return ends ? LAST : 3;
        }

        // ---- a direct set

        int homeOf(byte[] key) {
            int n = tracks();
            int home = 0;
            for (int i = 0; i < a && i < key.length && n > 0; i++) {
                home = (home * 256 + (key[i] & 255)) % n;
            }
            return home;
        }

        /** Track i of those that are looked at for a home; none behind the last of them. */
        int lookedAt(int home, int i) {
            int n = tracks();
            return i >= 0 && i < LOOKED_AT && i < n ? numberOf((home + i) % n) : NONE;
        }
    }

    /** The data sets and the table of them. */
    private static final class Volume {
        private final Unit unit;
        private final DataSet[] sets = new DataSet[MOST_SETS];
        private final boolean[] taken = new boolean[TRACKS];
        private final int[] runFirsts = new int[MOST_EXTENTS];
        private final int[] runLengths = new int[MOST_EXTENTS];
        private final Row line = new Row();
        private final Track spare = new Track();
        private int runs;

        Volume(Unit device) {
            unit = device;
            taken[0] = true;
            for (int d = 0; d < MOST_SETS; d++) {
                sets[d] = new DataSet(device);
            }
        }

        DataSet setAt(int d) {
            return d < 0 || d >= MOST_SETS || !sets[d].used ? null : sets[d];
        }

        int find(byte[] name) {
            for (int d = 0; d < MOST_SETS; d++) {
                if (sets[d].used && sets[d].isNamed(name)) {
                    return d;
                }
            }
            return NONE;
        }

        int lowestFree() {
            for (int d = 0; d < MOST_SETS; d++) {
                if (!sets[d].used) {
                    return d;
                }
            }
            return NONE;
        }

        int setCount() {
            int n = 0;
            for (int d = 0; d < MOST_SETS; d++) {
                n += sets[d].used ? 1 : 0;
            }
            return n;
        }

        int freeTracks() {
            int n = 0;
            for (int i = 0; i < TRACKS; i++) {
                n += taken[i] ? 0 : 1;
            }
            return n;
        }

        // ---- finding tracks

        /** How many tracks are free from one on. */
        private int freeFrom(int first) {
            int n = 0;
            for (int i = first; i >= 0 && i < TRACKS && !taken[i]; i++) {
                n++;
            }
            return n;
        }

        boolean findRuns(int wanted, int most) {
            runs = 0;
            int left = wanted;
            for (int i = 1; i < TRACKS && left > 0; i++) {
                int n = Math.min(left, freeFrom(i));
                if (n > 0) {
                    if (runs >= most || runs >= MOST_EXTENTS) {
                        return false;
                    }
                    runFirsts[runs] = i;
                    runLengths[runs] = n;
                    runs++;
                    left -= n;
                    i += n;
                }
            }
            return left == 0;
        }

        boolean findOneRun(int wanted) {
            runs = 0;
            for (int i = 1; i < TRACKS; i++) {
                if (freeFrom(i) >= wanted) {
                    runFirsts[0] = i;
                    runLengths[0] = wanted;
                    runs = 1;
                    return true;
                }
            }
            return false;
        }

        /** What was found latest comes to a set. */
        void giveRuns(DataSet set) {
            for (int r = 0; r < runs && r < MOST_EXTENTS; r++) {
                set.addRun(runFirsts[r], runLengths[r]);
                setTaken(runFirsts[r], runLengths[r], true);
            }
        }

        private void setTaken(int first, int n, boolean now) {
            for (int i = Math.max(0, first); i < first + n && i < TRACKS; i++) {
                taken[i] = now;
                unit.tracks[i].keepFirst(0);
            }
        }

        // ---- sets that come and go

        void create(int d, byte[] name, int kind, int a, int b) {
            if (d < 0 || d >= MOST_SETS || name.length < NAME_BYTES) {
                return;
            }
            DataSet set = sets[d];
            System.arraycopy(name, 0, set.name, 0, NAME_BYTES);
            set.used = true;
            set.kind = kind;
            set.a = a;
            set.b = b;
            set.extents = 0;
            set.members.size = 0;
            giveRuns(set);
            writeTable();
        }

        void remove(DataSet set) {
            for (int e = 0; e < set.extents && e < MOST_EXTENTS; e++) {
                setTaken(set.firsts[e], set.many[e], false);
            }
            set.used = false;
            writeTable();
        }

        void writeTable() {
            Track t = unit.tracks[0];
            t.keepFirst(0);
            for (int d = 0; d < MOST_SETS; d++) {
                if (sets[d].used) {
                    writeEntry(t, d, sets[d]);
                }
            }
        }

        private void writeEntry(Track t, int d, DataSet set) {
            line.size = 0;
            line.addAll(set.name, 0, NAME_BYTES);
            line.addByte(set.kind);
            line.addPair(set.a);
            line.addPair(set.b);
            line.addByte(set.extents);
            for (int e = 0; e < set.extents && e < MOST_EXTENTS; e++) {
                line.addByte(set.firsts[e]);
                line.addByte(set.many[e]);
            }
            int k = t.append(0, 0, d + 1, NAME_BYTES, line.size - NAME_BYTES);
            t.store(k, 0, line.cells, 0, line.size);
        }

        // ---- a library

        void writeList(DataSet set) {
            Track t = set.trackAt(0);
            if (t == null) {
                return;
            }
            int at = set.numberOf(0);
            t.keepFirst(0);
            for (int i = 0; i < set.members.size; i += MEMBERS_A_RECORD) {
                fillLine(set.members, i, Math.min(set.members.size, i + MEMBERS_A_RECORD));
                int k = t.append(at / HEADS, at % HEADS, t.records() + 1, NAME_BYTES, line.size - NAME_BYTES);
                t.store(k, 0, line.cells, 0, line.size);
            }
        }

        /** The key and the data of the list's record with members from one up to another. */
        private void fillLine(Members members, int first, int behind) {
            line.size = 0;
            line.addAll(members.names, (behind - 1) * NAME_BYTES, NAME_BYTES);
            for (int m = first; m < behind && members.has(m); m++) {
                line.addAll(members.names, m * NAME_BYTES, NAME_BYTES);
                line.addByte(members.tracks[m]);
                line.addByte(members.numbers[m]);
                line.addPair(members.blocks[m]);
            }
        }

        /**
         * Track by track: no block comes to a track behind the one that it was on, so each is
         * emptied when its turn comes, and the blocks of the spare copy are written anew.
         */
        int pressTogether(DataSet set) {
            Members members = set.members;
            int blocks = 0;
            int left = 0;
            int to = 1;
            int n = set.tracks();
            for (int i = 1; i < n; i++) {
                Track t = set.trackAt(i);
                if (t == null) {
                    continue;
                }
                spare.copyOf(t);
                t.keepFirst(0);
                for (int k = 0; k < spare.records(); k++) {
                    int m = left > 0 ? NONE : members.beginningAt(i, k + 1);
                    left = m < 0 ? left : members.blocksOf(m);
                    if (left > 0) {
                        to = Math.max(to, set.roomFrom(to, spare.bytes(k)));
                        int number = moveBlock(set, to, k);
                        members.setBegin(m, to, number);
                        left--;
                        blocks++;
                    }
                }
            }
            writeList(set);
            return blocks;
        }

        /** A block of the spare track goes to a track of the set: its number there. */
        private int moveBlock(DataSet set, int to, int k) {
            Track t = set.trackAt(to);
            if (t == null) {
                return 0;
            }
            int at = set.numberOf(to);
            t.appendCopy(spare, k, at / HEADS, at % HEADS, t.records() + 1);
            return t.records();
        }
    }

    /** A place among the blocks of a data set, and how many blocks may still be read. */
    private static final class Spot {
        int track;
        int record;
        int offset;
        int blocks;

        void set(int newTrack, int newRecord, int newBlocks) {
            track = newTrack;
            record = newRecord;
            offset = 0;
            blocks = newBlocks;
        }

        void copyOf(Spot other) {
            track = other.track;
            record = other.record;
            offset = other.offset;
            blocks = other.blocks;
        }

        /** A block's mark counts when it is come to: what spoils it later leaves the rest of it to be got. */
        boolean entersBlock() {
            return offset == 0;
        }

        void passBlock() {
            record++;
            offset = 0;
            blocks--;
        }

        /** The track with the block of which something is left, at that block; null behind the last. */
        Track settle(DataSet set) {
            for (int step = 0; step < FAR && blocks > 0; step++) {
                Track t = set.trackAt(track);
                if (t == null) {
                    return null;
                }
                if (!t.has(record)) {
                    track++;
                    record = 0;
                    offset = 0;
                } else if (offset >= t.dataLength(record)) {
                    passBlock();
                } else {
                    return t;
                }
            }
            return null;
        }
    }

    /** The block that is made, and where those went that were made before it. */
    private static final class Maker {
        final Row block = new Row();
        private int firstTrack;
        private int firstNumber;
        private int blocks;
        private int planTrack;
        private int planEnd;

        void begin() {
            block.size = 0;
            beginMember();
        }

        private void beginMember() {
            firstTrack = 0;
            firstNumber = 0;
            blocks = 0;
        }

        // ---- would it fit

        boolean accepts(DataSet set, int n) {
            planTrack = set.lastBlockTrack();
            Track t = set.trackAt(planTrack);
            planEnd = t == null ? PLACES : t.lastEnd();
            switch (set.kind) {
                case VARIABLE: return planVariable(set, n);
                case SPANNED: return planSpanned(set, n);
                default: return planBlock(set, block.size + n);
            }
        }

        private boolean planVariable(DataSet set, int n) {
            int size = Math.max(2, block.size);
            if (size + 2 + n <= set.b) {
                return planBlock(set, size + 2 + n);
            }
            return planBlock(set, size) && planBlock(set, 4 + n);
        }

        private boolean planSpanned(DataSet set, int n) {
            int size = Math.max(2, block.size);
            int left = n;
            for (int piece = 0; piece == 0 || (left > 0 && piece < FAR); piece++) {
                if (set.b - size < leastFree(n)) {
                    if (!planBlock(set, size)) {
                        return false;
                    }
                    size = 2;
                }
                int bytes = Math.min(left, set.b - size - 3);
                size += 3 + bytes;
                left -= bytes;
            }
            return planBlock(set, size);
        }

        /** What must be free in a block for a piece of a record with so many bytes. */
        private static int leastFree(int n) {
            return n == 0 ? 3 : 4;
        }

        private boolean planBlock(DataSet set, int bytes) {
            if (planEnd + GAP + bytes <= PLACES) {
                planEnd += GAP + bytes;
                return true;
            }
            int next = set.roomFrom(planTrack + 1, bytes);
            Track t = set.trackAt(next);
            if (t == null) {
                return false;
            }
            planTrack = next;
            planEnd = t.lastEnd() + GAP + bytes;
            return true;
        }

        // ---- putting

        void take(DataSet set, Row record) {
            switch (set.kind) {
                case VARIABLE: takeVariable(set, record); break;
                case SPANNED: takeSpanned(set, record); break;
                default: takeFixed(set, record); break;
            }
        }

        private void takeFixed(DataSet set, Row record) {
            block.addAll(record.cells, 0, record.size);
            if (block.size >= set.a * set.b) {
                writeBlock(set);
            }
        }

        private void takeVariable(DataSet set, Row record) {
            if (block.size + 2 + record.size > set.b) {
                writeBlock(set);
            }
            beginBlock();
            block.addPair(2 + record.size);
            block.addAll(record.cells, 0, record.size);
        }

        private void takeSpanned(DataSet set, Row record) {
            int done = 0;
            for (int piece = 0; piece == 0 || (done < record.size && piece < FAR); piece++) {
                if (set.b - block.size < leastFree(record.size)) {
                    writeBlock(set);
                }
                beginBlock();
                int bytes = Math.min(record.size - done, set.b - block.size - 3);
                block.addPair(3 + bytes);
                block.addByte(DataSet.typeOf(done == 0, done + bytes == record.size));
                block.addAll(record.cells, done, bytes);
                done += bytes;
            }
        }

        /** Room for the block's length, unless it has been begun before. */
        private void beginBlock() {
            if (block.size == 0) {
                block.addPair(0);
            }
        }

        /** The block is written behind the last one, if there is a block. */
        void writeBlock(DataSet set) {
            int i = set.roomFrom(set.lastBlockTrack(), block.size);
            Track t = set.trackAt(i);
            if (block.size == 0 || t == null) {
                return;
            }
            if (set.blockLead() > 0) {
                block.setPair(0, block.size);
            }
            int at = set.numberOf(i);
            int k = t.append(at / HEADS, at % HEADS, t.records() + 1, 0, block.size);
            t.store(k, 0, block.cells, 0, block.size);
            block.size = 0;
            if (blocks == 0) {
                firstTrack = i;
                firstNumber = k + 1;
            }
            blocks++;
        }

        /** What was put becomes member i, whose name is there already. */
        void stowAs(DataSet set, int i) {
            writeBlock(set);
            set.members.setBegin(i, firstTrack, firstNumber);
            set.members.setBlocks(i, blocks);
            beginMember();
        }
    }

    /** What is open: a data set, and what is put to it or got from it. */
    private static final class Opening {
        final Maker maker = new Maker();
        private final Spot next = new Spot();
        private final Spot told = new Spot();
        private final Spot walk = new Spot();
        private DataSet set;
        private int toldLength;
        private boolean chosen;
        int number;
        int mode;
        int records;

        boolean isOpen() {
            return set != null;
        }

        boolean isOf(int d) {
            return set != null && number == d;
        }

        void begin(DataSet newSet, int d, int newMode) {
            set = newSet;
            number = d;
            mode = newMode;
            records = 0;
            toldLength = NONE;
            chosen = newSet.kind != LIBRARY;
            next.set(newSet.firstBlockTrack(), 0, FAR);
            maker.begin();
        }

        void finish() {
            if (set != null && set.kind != LIBRARY) {
                maker.writeBlock(set);
            }
            maker.begin();
            set = null;
        }

        // ---- one behind the other

        int putRecord(Row record) {
            if (set == null || mode != TO_PUT) {
                return STATE;
            }
            if (!hasLength(record.size)) {
                return LENGTH;
            }
            if (!maker.accepts(set, record.size)) {
                return FULL;
            }
            maker.take(set, record);
            records++;
            return 1;
        }

        private boolean hasLength(int n) {
            switch (set.kind) {
                case VARIABLE: return n <= set.b - 4;
                case SPANNED: return true;
                default: return n == set.a;
            }
        }

        int getRecord(Row target, Row work) {
            if (set == null || mode == TO_PUT || set.kind == DIRECT || !chosen) {
                return STATE;
            }
            toldLength = NONE;
            int answer = collect(work);
            if (answer < 0) {
                return answer;
            }
            target.size = 0;
            target.addAll(work.cells, 0, work.size);
            toldLength = work.size;
            records++;
            return work.size;
        }

        /** The pieces of the next record, of which there is but one where it is not spanned. */
        private int collect(Row work) {
            boolean begun = false;
            work.size = 0;
            for (int piece = 0; piece < FAR; piece++) {
                Track t = next.settle(set);
                if (t == null) {
                    return NONE;
                }
                if (next.entersBlock() && t.isSpoiled(next.record)) {
                    next.passBlock();
                    return CHECK;
                }
                next.offset = Math.max(next.offset, set.blockLead());
                int type = set.pieceType(t, next.record, next.offset);
                if (DataSet.begins(type)) {
                    begun = true;
                    told.copyOf(next);
                }
                if (begun) {
                    addPiece(t, next, work);
                }
                next.offset += set.pieceLength(t, next.record, next.offset);
                if (begun && DataSet.ends(type)) {
                    return work.size;
                }
            }
            return NONE;
        }

        private void addPiece(Track t, Spot at, Row work) {
            int bytes = set.pieceLength(t, at.record, at.offset) - set.pieceLead();
            if (bytes <= LONGEST - work.size) {
                t.fetch(at.record, at.offset + set.pieceLead(), work.cells, work.size, bytes);
                work.size += bytes;
            }
        }

        int rewriteRecord(Row record) {
            if (set == null || mode != TO_CHANGE || toldLength < 0) {
                return STATE;
            }
            if (record.size != toldLength) {
                return LENGTH;
            }
            walk.copyOf(told);
            int done = 0;
            for (int piece = 0; piece < FAR; piece++) {
                Track t = walk.settle(set);
                if (t == null) {
                    return 1;
                }
                walk.offset = Math.max(walk.offset, set.blockLead());
                int length = set.pieceLength(t, walk.record, walk.offset);
                int bytes = length - set.pieceLead();
                t.store(walk.record, walk.offset + set.pieceLead(), record.cells, done, bytes);
                t.mark(walk.record, false);
                if (DataSet.ends(set.pieceType(t, walk.record, walk.offset))) {
                    return 1;
                }
                done += bytes;
                walk.offset += length;
            }
            return 1;
        }

        // ---- by keys

        int keepKeyed(Row record) {
            if (set == null || set.kind != DIRECT || mode != TO_CHANGE) {
                return STATE;
            }
            if (record.size != set.a + set.b) {
                return LENGTH;
            }
            int home = set.homeOf(record.cells);
            if (changeKeyed(home, record)) {
                records++;
                return 1;
            }
            if (addKeyed(home, record)) {
                records++;
                return 2;
            }
            return FULL;
        }

        private boolean changeKeyed(int home, Row record) {
            for (int i = 0; i < LOOKED_AT; i++) {
                Track t = trackLookedAt(home, i);
                int k = t == null ? NONE : t.findKey(record.cells, set.a);
                if (t != null && k >= 0) {
                    t.store(k, set.a, record.cells, set.a, set.b);
                    t.mark(k, false);
                    return true;
                }
            }
            return false;
        }

        private boolean addKeyed(int home, Row record) {
            for (int i = 0; i < LOOKED_AT; i++) {
                Track t = trackLookedAt(home, i);
                if (t != null && t.hasRoom(record.size)) {
                    int at = set.lookedAt(home, i);
                    int k = t.append(at / HEADS, at % HEADS, t.records() + 1, set.a, set.b);
                    t.store(k, 0, record.cells, 0, record.size);
                    return true;
                }
            }
            return false;
        }

        private Track trackLookedAt(int home, int i) {
            return set.unit.trackAt(set.lookedAt(home, i));
        }

        int findKeyed(Row key, Row target) {
            if (set == null || set.kind != DIRECT) {
                return STATE;
            }
            if (key.size != set.a) {
                return LENGTH;
            }
            int home = set.homeOf(key.cells);
            for (int i = 0; i < LOOKED_AT; i++) {
                Track t = trackLookedAt(home, i);
                int k = t == null ? NONE : t.findKey(key.cells, set.a);
                if (t != null && k >= 0) {
                    return tellKeyed(t, k, target);
                }
            }
            return NONE;
        }

        private int tellKeyed(Track t, int k, Row target) {
            if (t.isSpoiled(k)) {
                return CHECK;
            }
            t.fetch(k, set.a, target.cells, 0, set.b);
            target.size = set.b;
            records++;
            return set.b;
        }

        // ---- members

        int choose(byte[] name) {
            if (set == null || set.kind != LIBRARY || mode == TO_PUT) {
                return STATE;
            }
            int i = set.members.find(name);
            if (i < 0) {
                return NONE;
            }
            int blocks = set.members.blocksOf(i);
            next.set(set.members.tracks[i], set.members.numbers[i] - 1, blocks);
            chosen = true;
            return blocks;
        }

        int stowMember(byte[] name) {
            if (set == null || set.kind != LIBRARY || mode != TO_PUT) {
                return STATE;
            }
            Members members = set.members;
            int i = members.placeOf(name);
            if (members.find(name) < 0) {
                if (members.size >= MOST_MEMBERS) {
                    return FULL;
                }
                members.insert(i, name);
            }
            maker.stowAs(set, i);
            return members.size;
        }
    }
}
