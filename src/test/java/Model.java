import java.util.ArrayList;
import java.util.Arrays;
import java.util.List;
import java.util.TreeMap;

/**
 * The document told a second time, in lists and without a thought for room or speed: ModelTest asks
 * it and the class the same.
 */
final class Model {
    static final int NONE = -1, RANGE = -2, STATE = -3, FULL = -4, LENGTH = -5, CHECK = -6, TWICE = -7, BUSY = -8;

    static final class Rec {
        int[] id;
        int[] key;
        int[] data;
        boolean spoiled;

        Rec(int[] id, int[] key, int[] data) {
            this.id = id;
            this.key = key;
            this.data = data;
        }

        int places() {
            return 30 + key.length + data.length;
        }
    }

    static final class Member {
        int track, number, blocks;
    }

    static final class Set {
        String name;
        int kind, a, b;
        List<int[]> extents = new ArrayList<>();
        TreeMap<String, Member> members = new TreeMap<>();

        List<Integer> tracks() {
            List<Integer> all = new ArrayList<>();
            for (int[] e : extents) {
                for (int i = 0; i < e[1]; i++) {
                    all.add(e[0] + i);
                }
            }
            return all;
        }
    }

    static final class Handle {
        int d, mode, records;
        List<Integer> block = new ArrayList<>();
        // Reading: the blocks of it all or of the member, each {track of the set, index}.
        List<int[]> blocks;
        int at, offset;
        List<int[]> told;
        int toldLength;
        List<int[]> written = new ArrayList<>();
    }

    List<Integer> buffer = new ArrayList<>();
    int[] out = {};
    int[] memory = new int[2048];
    int[][] commands = new int[32][4];
    List<List<List<Rec>>> units = new ArrayList<>();
    int[][] arms = new int[2][2];
    long time;
    int status, residual, endedAt = NONE, begun;
    Set[] sets = new Set[10];
    Handle[] handles = new Handle[4];

    Model() {
        for (int u = 0; u < 2; u++) {
            units.add(new ArrayList<>());
            for (int t = 0; t < 80; t++) {
                units.get(u).add(new ArrayList<>());
            }
        }
    }

    // ---- the buffer

    int feed(int... words) {
        if (buffer.size() + 20 > 1200) {
            return FULL;
        }
        for (int w : words) {
            for (int shift = 24; shift >= 0; shift -= 8) {
                buffer.add(w >>> shift & 255);
            }
        }
        return buffer.size();
    }

    int end(int n) {
        if (n < 0 || n > buffer.size()) {
            return NONE;
        }
        buffer = new ArrayList<>(buffer.subList(0, n));
        return n;
    }

    int out(int i) {
        return i >= 0 && i < out.length ? out[i] : NONE;
    }

    private int[] read() {
        int[] all = buffer.stream().mapToInt(Integer::intValue).toArray();
        buffer.clear();
        return all;
    }

    private String readName() {
        int[] all = read();
        StringBuilder name = new StringBuilder();
        for (int i = 0; i < 8; i++) {
            name.append((char) (i < all.length ? all[i] : 32));
        }
        return name.toString();
    }

    // ---- programs

    int command(int i, int op, int address, int length, int flags) {
        if (i < 0 || i > 31 || flags < 0 || flags > 7) {
            return RANGE;
        }
        commands[i] = new int[] {op, address, length, flags};
        return 1;
    }

    int memory(int i) {
        return i < 0 || i > 2047 ? RANGE : memory[i];
    }

    int poke(int from) {
        int[] all = read();
        if (from < 0 || (long) from + all.length > 2048) {
            return RANGE;
        }
        System.arraycopy(all, 0, memory, from, all.length);
        return all.length;
    }

    private static final class Stop extends Exception {
        private static final long serialVersionUID = 1;
        final int why;

        Stop(int why) {
            this.why = why;
        }
    }

    private int unit, passes, pointKind;
    private Rec pointRec;
    private static final int NOWHERE = 0, HOME = 1, COUNT = 2, KEY = 3, END = 4;

    private List<int[]> program() {
        List<int[]> all = new ArrayList<>();
        for (int[] c : commands) {
            all.add(c);
            if ((c[3] & 1) == 0) {
                break;
            }
        }
        return all;
    }

    private static boolean search(int op) {
        return op == 3 || op == 4 || op == 5 || op == 6;
    }

    private static boolean good(List<int[]> p) {
        if (p.size() == 32 && (p.get(31)[3] & 1) != 0) {
            return false;
        }
        for (int i = 0; i < p.size(); i++) {
            int op = p.get(i)[0];
            long address = p.get(i)[1];
            long length = p.get(i)[2];
            if (op < 1 || op > 16) {
                return false;
            }
            if (op != 7 && op != 15 && op != 16 && (address < 0 || length < 0 || address + length > 2048)) {
                return false;
            }
            if ((op == 1 || op == 3) && length != 2 || op == 2 && length != 1 || op == 4 && length != 3) {
                return false;
            }
            if ((op == 5 || op == 6) && (length < 1 || length > 60) || op == 14 && length < 6) {
                return false;
            }
            int before = i > 0 ? p.get(i - 1)[0] : 0;
            int led = i > 1 && before == 7 ? p.get(i - 2)[0] : 0;
            if (op == 7 && (!search(before) || address != i - 1)) {
                return false;
            }
            if (op == 12 && led != 4 && led != 5 && led != 6 || op == 13 && led != 4) {
                return false;
            }
            if ((op == 14 || op == 15) && !search(led) && before != 14) {
                return false;
            }
        }
        return true;
    }

    int start(int u) {
        if (u < 0 || u > 1) {
            return RANGE;
        }
        unit = u;
        status = 0;
        residual = 0;
        endedAt = NONE;
        begun = 0;
        passes = 0;
        pointKind = NOWHERE;
        List<int[]> p = program();
        if (!good(p)) {
            return status = 4;
        }
        if (u == 0 && p.stream().anyMatch(c -> c[0] >= 12 && c[0] <= 15)) {
            return status = 8;
        }
        int i = 0;
        while (i < p.size()) {
            endedAt = i;
            begun++;
            residual = 0;
            try {
                i = step(p.get(i), i);
            } catch (Stop s) {
                status = s.why;
                if (status == 1 || status == 2 || status == 6 || status == 7) {
                    residual = 0;
                }
                break;
            }
        }
        return status;
    }

    private List<Rec> track() {
        return units.get(unit).get(arms[unit][0] * 4 + arms[unit][1]);
    }

    private static int begin(List<Rec> track, int k) {
        int place = 30;
        for (int i = 0; i < k; i++) {
            place += track.get(i).places();
        }
        return place;
    }

    private void goTo(int place) {
        while (time % 1500 != place % 1500) {
            time++;
        }
    }

    private Rec nextRecord() throws Stop {
        while (true) {
            for (int k = 0; k < track().size(); k++) {
                if (begin(track(), k) >= time % 1500) {
                    goTo(begin(track(), k));
                    return track().get(k);
                }
            }
            time++;
            goTo(0);
            passes++;
            if (passes == 2) {
                throw new Stop(1);
            }
        }
    }

    private int step(int[] c, int i) throws Stop {
        int op = c[0];
        int address = c[1];
        int length = c[2];
        boolean holds = false;
        switch (op) {
            case 1:
                if (memory[address] > 19 || memory[address + 1] > 3) {
                    throw new Stop(6);
                }
                int way = Math.abs(memory[address] - arms[unit][0]);
                time += way == 0 ? 0 : 50 + 20 * way;
                arms[unit] = new int[] {memory[address], memory[address + 1]};
                pointKind = NOWHERE;
                break;
            case 2:
                if (memory[address] > 3) {
                    throw new Stop(6);
                }
                arms[unit][1] = memory[address];
                pointKind = NOWHERE;
                break;
            case 3:
                goTo(0);
                time += 30;
                pointKind = HOME;
                holds = memory[address] == arms[unit][0] && memory[address + 1] == arms[unit][1];
                if (!holds && ++passes == 2) {
                    throw new Stop(1);
                }
                break;
            case 4:
                pointRec = nextRecord();
                pointKind = COUNT;
                time += 10;
                holds = Arrays.equals(pointRec.id, Arrays.copyOfRange(memory, address, address + 3));
                break;
            case 5: case 6:
                toCount();
                time += 10 + pointRec.key.length;
                pointKind = KEY;
                int order = Arrays.compare(pointRec.key, Arrays.copyOfRange(memory, address, address + length));
                holds = pointRec.key.length == length && (op == 5 ? order == 0 : order >= 0);
                break;
            case 7:
                return address;
            case 16:
                return i + 1;
            case 8: case 9: case 10: case 11:
                reading(c);
                break;
            default:
                writing(c);
                break;
        }
        if (!search(op)) {
            passes = 0;
        }
        return holds ? i + 2 : i + 1;
    }

    private void toCount() throws Stop {
        if (pointKind != COUNT) {
            pointRec = nextRecord();
            time += 10;
        }
    }

    private static int[] countOf(Rec r) {
        return new int[] {r.id[0], r.id[1], r.id[2], r.key.length, r.data.length / 256, r.data.length % 256};
    }

    private void reading(int[] c) throws Stop {
        int[] bytes;
        boolean hasData = true;
        switch (c[0]) {
            case 8:
                pointRec = nextRecord();
                time += 10;
                pointKind = COUNT;
                bytes = countOf(pointRec);
                hasData = false;
                break;
            case 9:
                toCount();
                bytes = Due.join(pointRec.key, pointRec.data);
                time += 10 + bytes.length + 10;
                pointKind = NOWHERE;
                break;
            case 10:
                if (pointKind != KEY) {
                    toCount();
                    time += 10 + pointRec.key.length;
                }
                bytes = pointRec.data;
                time += bytes.length + 10;
                pointKind = NOWHERE;
                break;
            default:
                pointRec = nextRecord();
                time += pointRec.places();
                bytes = Due.join(countOf(pointRec), Due.join(pointRec.key, pointRec.data));
                pointKind = NOWHERE;
                break;
        }
        int n = Math.min(c[2], bytes.length);
        if ((c[3] & 4) == 0) {
            System.arraycopy(bytes, 0, memory, c[1], n);
        }
        residual = c[2] - n;
        if (hasData && pointRec.spoiled) {
            throw new Stop(5);
        }
        if (bytes.length != c[2] && (c[3] & 2) == 0) {
            throw new Stop(3);
        }
    }

    private void writing(int[] c) throws Stop {
        int address = c[1];
        int length = c[2];
        int wanted;
        int behind = pointKind == HOME ? 0 : track().indexOf(pointRec) + 1;
        switch (c[0]) {
            case 12:
                if (pointKind == COUNT) {
                    time += 10 + pointRec.key.length;
                }
                wanted = pointRec.data.length;
                time += wanted + 10;
                pointRec.data = cut(address, length, wanted);
                pointRec.spoiled = false;
                pointKind = NOWHERE;
                break;
            case 13:
                wanted = pointRec.key.length + pointRec.data.length;
                time += 10 + wanted + 10;
                int[] both = cut(address, length, wanted);
                pointRec.key = Arrays.copyOf(both, pointRec.key.length);
                pointRec.data = Arrays.copyOfRange(both, pointRec.key.length, wanted);
                pointRec.spoiled = false;
                pointKind = NOWHERE;
                break;
            case 14:
                int key = memory[address + 3];
                int data = memory[address + 4] * 256 + memory[address + 5];
                if (key > 60 || data > 1200) {
                    throw new Stop(7);
                }
                if (begin(track(), behind) + 30 + key + data > 1500) {
                    throw new Stop(2);
                }
                int[] rest = cut(address + 6, length - 6, key + data);
                track().subList(behind, track().size()).clear();
                pointRec = new Rec(Arrays.copyOfRange(memory, address, address + 3),
                        Arrays.copyOf(rest, key), Arrays.copyOfRange(rest, key, key + data));
                track().add(pointRec);
                goTo(begin(track(), behind + 1));
                pointKind = END;
                wanted = 6 + key + data;
                break;
            default:
                track().subList(behind, track().size()).clear();
                goTo(begin(track(), behind));
                pointKind = NOWHERE;
                return;
        }
        residual = Math.max(0, length - wanted);
        if (length != wanted && (c[3] & 2) == 0) {
            throw new Stop(3);
        }
    }

    /** The bytes of memory as far as they are wanted, 0s behind them. */
    private int[] cut(int from, int has, int wanted) {
        return Arrays.copyOf(Arrays.copyOfRange(memory, from, from + Math.min(has, wanted)), wanted);
    }

    int status(int what) {
        return what == 0 ? status : what == 1 ? residual : what == 2 ? endedAt : what == 3 ? begun : NONE;
    }

    int arm(int u, int what) {
        return u < 0 || u > 1 || what < 0 || what > 1 ? RANGE : arms[u][what];
    }

    private Rec rec(int u, int track, int k) {
        if (u < 0 || u > 1 || track < 0 || track > 79 || k < 0 || k >= units.get(u).get(track).size()) {
            return null;
        }
        return units.get(u).get(track).get(k);
    }

    int record(int u, int track, int k, int what) {
        Rec r = rec(u, track, k);
        if (r == null || what < 0) {
            return NONE;
        }
        if (what < 3) {
            return r.id[what];
        }
        if (what < 7) {
            return new int[] {r.key.length, r.data.length, begin(units.get(u).get(track), k), r.spoiled ? 1 : 0}[what - 3];
        }
        if (what >= 100 && what < 100 + r.key.length) {
            return r.key[what - 100];
        }
        return what >= 200 && what < 200 + r.data.length ? r.data[what - 200] : NONE;
    }

    boolean spoil(int u, int track, int k) {
        Rec r = rec(u, track, k);
        if (r != null) {
            r.spoiled = true;
        }
        return r != null;
    }

    // ---- the volume

    private boolean isFree(int track) {
        for (Set s : sets) {
            if (s != null && s.tracks().contains(track)) {
                return false;
            }
        }
        return track >= 1 && track <= 79;
    }

    /** The free runs, whole. */
    private List<int[]> freeRuns() {
        List<int[]> runs = new ArrayList<>();
        for (int t = 1; t <= 79; t++) {
            if (isFree(t) && !isFree(t - 1)) {
                runs.add(new int[] {t, 0});
            }
            if (isFree(t)) {
                runs.get(runs.size() - 1)[1]++;
            }
        }
        return runs;
    }

    private List<int[]> find(int n, int most) {
        List<int[]> found = new ArrayList<>();
        for (int[] run : freeRuns()) {
            int take = Math.min(n, run[1]);
            n -= take;
            if (take > 0) {
                found.add(new int[] {run[0], take});
            }
        }
        return n > 0 || found.size() > most ? null : found;
    }

    private List<int[]> findAtOnce(int n) {
        for (int[] run : freeRuns()) {
            if (run[1] >= n) {
                return List.of(new int[] {run[0], n});
            }
        }
        return null;
    }

    private int byName(String name) {
        for (int d = 0; d < 10; d++) {
            if (sets[d] != null && sets[d].name.equals(name)) {
                return d;
            }
        }
        return NONE;
    }

    private static int[] chars(String s) {
        return Due.bytes(s);
    }

    private void table() {
        List<Rec> t = units.get(0).get(0);
        t.clear();
        for (int d = 0; d < 10; d++) {
            Set s = sets[d];
            if (s == null) {
                continue;
            }
            int[] data = {s.kind, s.a / 256, s.a % 256, s.b / 256, s.b % 256, s.extents.size()};
            for (int[] e : s.extents) {
                data = Due.join(data, e);
            }
            t.add(new Rec(new int[] {0, 0, d + 1}, chars(s.name), data));
        }
    }

    int allocate(int kind, int tracks, int a, int b, boolean atOnce) {
        String name = readName();
        boolean good;
        if (kind == 0 || kind == 4) {
            good = a >= 1 && a <= 200 && b >= 1 && b <= 20 && a * b <= 1200;
        } else if (kind == 1 || kind == 2) {
            good = a == 0 && b >= 8 && b <= 1200;
        } else {
            good = kind == 3 && a >= 1 && a <= 8 && b >= 0 && b <= 400;
        }
        if (!good || tracks < 1 || tracks > 79 || kind == 4 && tracks < 2) {
            return RANGE;
        }
        if (byName(name) >= 0) {
            return TWICE;
        }
        for (int d = 0; d < 10; d++) {
            if (sets[d] == null) {
                List<int[]> found = atOnce ? findAtOnce(tracks) : find(tracks, 4);
                if (found == null) {
                    return FULL;
                }
                Set s = new Set();
                s.name = name;
                s.kind = kind;
                s.a = a;
                s.b = b;
                s.extents.addAll(found);
                sets[d] = s;
                table();
                return d;
            }
        }
        return FULL;
    }

    private int opens(int d) {
        int n = 0;
        for (Handle h : handles) {
            n += h != null && h.d == d ? 1 : 0;
        }
        return n;
    }

    int scratch() {
        int d = byName(readName());
        if (d < 0) {
            return NONE;
        }
        if (opens(d) > 0) {
            return BUSY;
        }
        for (int t : sets[d].tracks()) {
            units.get(0).get(t).clear();
        }
        sets[d] = null;
        table();
        return d;
    }

    int extend(int tracks) {
        String name = readName();
        if (tracks < 1 || tracks > 79) {
            return RANGE;
        }
        int d = byName(name);
        if (d < 0) {
            return NONE;
        }
        Set s = sets[d];
        if (s.kind == 3) {
            return STATE;
        }
        List<int[]> found = find(tracks, 4 - s.extents.size());
        if (found == null) {
            return FULL;
        }
        for (int[] run : found) {
            int[] last = s.extents.get(s.extents.size() - 1);
            if (last[0] + last[1] == run[0]) {
                last[1] += run[1];
            } else {
                s.extents.add(run);
            }
        }
        table();
        return s.tracks().size();
    }

    int dataSet(int d, int what) {
        if (d < 0 || d > 9 || sets[d] == null) {
            return NONE;
        }
        Set s = sets[d];
        if (what >= 10 && what <= 17) {
            return s.name.charAt(what - 10);
        }
        if (what >= 20 && what < 20 + 2 * s.extents.size()) {
            return s.extents.get((what - 20) / 2)[what % 2];
        }
        int[] told = {s.kind, s.a, s.b, s.tracks().size(), s.extents.size(), opens(d), s.members.size()};
        return what >= 0 && what < told.length ? told[what] : NONE;
    }

    int count(int what) {
        switch (what) {
            case 0: return freeRuns().stream().mapToInt(r -> r[1]).sum();
            case 1: return (int) Arrays.stream(sets).filter(s -> s != null).count();
            case 2: return (int) Arrays.stream(handles).filter(h -> h != null).count();
            case 3: return buffer.size();
            case 4: return out.length;
            default: return NONE;
        }
    }

    // ---- records

    private List<Rec> setTrack(Set s, int i) {
        return units.get(0).get(s.tracks().get(i));
    }

    private Handle handle(int h) {
        return h < 0 || h > 3 ? null : handles[h];
    }

    int open(int mode) {
        String name = readName();
        if (mode < 0 || mode > 2) {
            return RANGE;
        }
        int d = byName(name);
        if (d < 0) {
            return NONE;
        }
        Set s = sets[d];
        if (s.kind == 4 && mode == 2 || s.kind == 3 && mode == 1) {
            return STATE;
        }
        for (Handle h : handles) {
            if (h != null && h.d == d && (h.mode != 0 || mode != 0)) {
                return BUSY;
            }
        }
        for (int h = 0; h < 4; h++) {
            if (handles[h] == null) {
                Handle o = new Handle();
                o.d = d;
                o.mode = mode;
                if (mode == 1 && s.kind != 4) {
                    for (int t : s.tracks()) {
                        units.get(0).get(t).clear();
                    }
                }
                if (s.kind != 4) {
                    o.blocks = blocksFrom(s, 0, 0, Integer.MAX_VALUE);
                }
                handles[h] = o;
                return h;
            }
        }
        return FULL;
    }

    private List<int[]> blocksFrom(Set s, int track, int k, int most) {
        List<int[]> all = new ArrayList<>();
        for (int t = track; t < s.tracks().size(); t++) {
            for (int i = t == track ? k : 0; i < setTrack(s, t).size() && all.size() < most; i++) {
                all.add(new int[] {t, i});
            }
        }
        return all;
    }

    int close(int h) {
        Handle o = handle(h);
        if (o == null) {
            return NONE;
        }
        if (sets[o.d].kind != 4 && !o.block.isEmpty()) {
            write(sets[o.d], o.block, o.written);
        }
        handles[h] = null;
        return 1;
    }

    /** A block goes behind the last one: false, if there is no room. */
    private boolean write(Set s, List<Integer> block, List<int[]> written) {
        int first = s.kind == 4 ? 1 : 0;
        int last = first;
        for (int t = first; t < s.tracks().size(); t++) {
            if (!setTrack(s, t).isEmpty()) {
                last = t;
            }
        }
        int[] data = block.stream().mapToInt(Integer::intValue).toArray();
        if (s.kind == 1 || s.kind == 2) {
            data[0] = data.length / 256;
            data[1] = data.length % 256;
        }
        for (int t = last; t < s.tracks().size(); t++) {
            List<Rec> track = setTrack(s, t);
            if (begin(track, track.size()) + 30 + data.length <= 1500) {
                int number = s.tracks().get(t);
                track.add(new Rec(new int[] {number / 4, number % 4, track.size() + 1}, new int[0], data));
                written.add(new int[] {t, track.size()});
                return true;
            }
        }
        return false;
    }

    int put(int h) {
        int[] r = read();
        Handle o = handle(h);
        if (o == null) {
            return NONE;
        }
        if (o.mode != 1) {
            return STATE;
        }
        Set s = sets[o.d];
        if ((s.kind == 0 || s.kind == 4) && r.length != s.a || s.kind == 1 && r.length > s.b - 4) {
            return LENGTH;
        }
        // Done for a trial first, on what is thrown away, with what is left written as well.
        List<List<Rec>> before = new ArrayList<>();
        for (int t = 0; t < s.tracks().size(); t++) {
            before.add(new ArrayList<>(setTrack(s, t)));
        }
        List<Integer> block = new ArrayList<>(o.block);
        boolean fits = putInto(s, r, block, new ArrayList<>());
        fits = fits && (block.isEmpty() || write(s, block, new ArrayList<>()));
        for (int t = 0; t < s.tracks().size(); t++) {
            setTrack(s, t).clear();
            setTrack(s, t).addAll(before.get(t));
        }
        if (!fits) {
            return FULL;
        }
        putInto(s, r, o.block, o.written);
        o.records++;
        return 1;
    }

    private boolean putInto(Set s, int[] r, List<Integer> block, List<int[]> written) {
        if (s.kind == 0 || s.kind == 4) {
            add(block, r);
            if (block.size() == s.a * s.b) {
                boolean fits = write(s, block, written);
                block.clear();
                return fits;
            }
            return true;
        }
        if (s.kind == 1) {
            if (!block.isEmpty() && block.size() + 2 + r.length > s.b) {
                if (!write(s, block, written)) {
                    return false;
                }
                block.clear();
            }
            if (block.isEmpty()) {
                add(block, 0, 0);
            }
            add(block, (r.length + 2) / 256, (r.length + 2) % 256);
            add(block, r);
            return true;
        }
        int done = 0;
        do {
            if (!block.isEmpty() && s.b - block.size() < (r.length == 0 ? 3 : 4)) {
                if (!write(s, block, written)) {
                    return false;
                }
                block.clear();
            }
            if (block.isEmpty()) {
                add(block, 0, 0);
            }
            int n = Math.min(r.length - done, s.b - block.size() - 3);
            boolean first = done == 0;
            boolean last = done + n == r.length;
            add(block, (n + 3) / 256, (n + 3) % 256, first && last ? 0 : first ? 1 : last ? 2 : 3);
            add(block, Arrays.copyOfRange(r, done, done + n));
            done += n;
        } while (done < r.length);
        return true;
    }

    private static void add(List<Integer> to, int... bytes) {
        for (int b : bytes) {
            to.add(b);
        }
    }

    int get(int h) {
        Handle o = handle(h);
        if (o == null || o.mode == 1 || sets[o.d].kind == 3 || o.blocks == null) {
            return STATE;
        }
        Set s = sets[o.d];
        o.told = null;
        List<int[]> parts = new ArrayList<>();
        List<Integer> bytes = new ArrayList<>();
        while (o.at < o.blocks.size()) {
            int[] where = o.blocks.get(o.at);
            Rec r = setTrack(s, where[0]).get(where[1]);
            if (o.offset >= r.data.length) {
                o.at++;
                o.offset = 0;
                continue;
            }
            if (o.offset == 0 && r.spoiled) {
                o.at++;
                o.offset = 0;
                return CHECK;
            }
            int lead = s.kind == 2 ? 3 : s.kind == 1 ? 2 : 0;
            if (o.offset == 0 && lead > 0) {
                o.offset = 2;
            }
            int n = lead == 0 ? s.a : r.data[o.offset] * 256 + r.data[o.offset + 1] - lead;
            int type = s.kind == 2 ? r.data[o.offset + 2] : 0;
            int from = o.offset + lead;
            o.offset = from + n;
            if ((type == 2 || type == 3) && parts.isEmpty()) {
                continue;
            }
            parts.add(new int[] {where[0], where[1], from, n});
            add(bytes, Arrays.copyOfRange(r.data, from, from + n));
            if (type == 0 || type == 2) {
                out = bytes.stream().mapToInt(Integer::intValue).toArray();
                o.told = parts;
                o.toldLength = out.length;
                o.records++;
                return out.length;
            }
        }
        return NONE;
    }

    int rewrite(int h) {
        int[] bytes = read();
        Handle o = handle(h);
        if (o == null || o.mode != 2 || o.told == null) {
            return STATE;
        }
        if (bytes.length != o.toldLength) {
            return LENGTH;
        }
        int done = 0;
        for (int[] part : o.told) {
            Rec r = setTrack(sets[o.d], part[0]).get(part[1]);
            System.arraycopy(bytes, done, r.data, part[2], part[3]);
            r.spoiled = false;
            done += part[3];
        }
        return 1;
    }

    private List<Integer> lookedAt(Set s, int[] key) {
        java.math.BigInteger number = java.math.BigInteger.ZERO;
        for (int b : key) {
            number = number.shiftLeft(8).add(java.math.BigInteger.valueOf(b));
        }
        List<Integer> tracks = s.tracks();
        int home = number.mod(java.math.BigInteger.valueOf(tracks.size())).intValue();
        List<Integer> all = new ArrayList<>();
        for (int i = 0; i < 4; i++) {
            int t = tracks.get((home + i) % tracks.size());
            if (!all.contains(t)) {
                all.add(t);
            }
        }
        return all;
    }

    private Rec keyed(Set s, int[] key) {
        for (int t : lookedAt(s, key)) {
            for (Rec r : units.get(0).get(t)) {
                if (Arrays.equals(r.key, key)) {
                    return r;
                }
            }
        }
        return null;
    }

    int putKeyed(int h) {
        int[] bytes = read();
        Handle o = handle(h);
        if (o == null || sets[o.d].kind != 3 || o.mode != 2) {
            return STATE;
        }
        Set s = sets[o.d];
        if (bytes.length != s.a + s.b) {
            return LENGTH;
        }
        int[] key = Arrays.copyOf(bytes, s.a);
        int[] data = Arrays.copyOfRange(bytes, s.a, s.a + s.b);
        Rec r = keyed(s, key);
        if (r != null) {
            r.data = data;
            r.spoiled = false;
            o.records++;
            return 1;
        }
        for (int t : lookedAt(s, key)) {
            List<Rec> track = units.get(0).get(t);
            if (begin(track, track.size()) + 30 + s.a + s.b <= 1500) {
                track.add(new Rec(new int[] {t / 4, t % 4, track.size() + 1}, key, data));
                o.records++;
                return 2;
            }
        }
        return FULL;
    }

    int getKeyed(int h) {
        int[] key = read();
        Handle o = handle(h);
        if (o == null || sets[o.d].kind != 3) {
            return STATE;
        }
        if (key.length != sets[o.d].a) {
            return LENGTH;
        }
        Rec r = keyed(sets[o.d], key);
        if (r == null) {
            return NONE;
        }
        if (r.spoiled) {
            return CHECK;
        }
        out = r.data.clone();
        o.records++;
        return out.length;
    }

    // ---- members

    private void list(Set s) {
        List<Rec> t = setTrack(s, 0);
        t.clear();
        int at = s.tracks().get(0);
        List<String> names = new ArrayList<>(s.members.keySet());
        for (int i = 0; i < names.size(); i += 4) {
            List<String> some = names.subList(i, Math.min(names.size(), i + 4));
            int[] data = {};
            for (String name : some) {
                Member m = s.members.get(name);
                data = Due.join(data, chars(name));
                data = Due.join(data, new int[] {m.track, m.number, m.blocks / 256, m.blocks % 256});
            }
            t.add(new Rec(new int[] {at / 4, at % 4, i / 4 + 1}, chars(some.get(some.size() - 1)), data));
        }
    }

    int member(int h) {
        String name = readName();
        Handle o = handle(h);
        if (o == null || sets[o.d].kind != 4 || o.mode == 1) {
            return STATE;
        }
        Member m = sets[o.d].members.get(name);
        if (m == null) {
            return NONE;
        }
        o.blocks = m.blocks == 0 ? new ArrayList<>() : blocksFrom(sets[o.d], m.track, m.number - 1, m.blocks);
        o.at = 0;
        o.offset = 0;
        return m.blocks;
    }

    int stow(int h) {
        String name = readName();
        Handle o = handle(h);
        if (o == null || sets[o.d].kind != 4 || o.mode != 1) {
            return STATE;
        }
        Set s = sets[o.d];
        if (!s.members.containsKey(name) && s.members.size() == 40) {
            return FULL;
        }
        if (!o.block.isEmpty()) {
            write(s, o.block, o.written);
            o.block.clear();
        }
        Member m = new Member();
        m.blocks = o.written.size();
        if (m.blocks > 0) {
            m.track = o.written.get(0)[0];
            m.number = o.written.get(0)[1];
        }
        o.written.clear();
        s.members.put(name, m);
        list(s);
        return s.members.size();
    }

    private Set library(int d) {
        return d < 0 || d > 9 || sets[d] == null || sets[d].kind != 4 ? null : sets[d];
    }

    int memberAt(int d, int i) {
        Set s = library(d);
        if (s == null || i < 0 || i >= s.members.size()) {
            return NONE;
        }
        out = chars(new ArrayList<>(s.members.keySet()).get(i));
        return 8;
    }

    int drop(int d, int i) {
        Set s = library(d);
        if (s == null || i < 0 || i >= s.members.size()) {
            return NONE;
        }
        for (Handle h : handles) {
            if (h != null && h.d == d && h.mode == 1) {
                return BUSY;
            }
        }
        s.members.remove(new ArrayList<>(s.members.keySet()).get(i));
        list(s);
        return s.members.size();
    }

    int press(int d) {
        Set s = library(d);
        if (s == null) {
            return NONE;
        }
        if (opens(d) > 0) {
            return BUSY;
        }
        List<Member> order = new ArrayList<>(s.members.values());
        order.removeIf(m -> m.blocks == 0);
        order.sort((m, n) -> m.track != n.track ? m.track - n.track : m.number - n.number);
        List<List<Rec>> kept = new ArrayList<>();
        for (Member m : order) {
            List<Rec> recs = new ArrayList<>();
            for (int[] where : blocksFrom(s, m.track, m.number - 1, m.blocks)) {
                recs.add(setTrack(s, where[0]).get(where[1]));
            }
            kept.add(recs);
        }
        for (int t = 1; t < s.tracks().size(); t++) {
            setTrack(s, t).clear();
        }
        int n = 0;
        for (int i = 0; i < order.size(); i++) {
            List<int[]> written = new ArrayList<>();
            for (Rec r : kept.get(i)) {
                List<Integer> block = new ArrayList<>();
                add(block, r.data);
                write(s, block, written);
                int[] at = written.get(written.size() - 1);
                setTrack(s, at[0]).get(at[1] - 1).spoiled = r.spoiled;
                n++;
            }
            order.get(i).track = written.get(0)[0];
            order.get(i).number = written.get(0)[1];
        }
        list(s);
        return n;
    }

    int opened(int h, int what) {
        Handle o = handle(h);
        if (o == null || what < 0 || what > 3) {
            return NONE;
        }
        return new int[] {o.d, o.mode, o.records, o.block.size()}[what];
    }
}
