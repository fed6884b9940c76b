import java.util.ArrayList;
import java.util.List;
import java.util.Random;

/** All promises: runs of calls, drawn from fixed seeds, that the class and the model are asked alike. */
public final class ModelTest {
    private static final int RUNS = 1200;
    private static final int CALLS = 400;
    private static final int[] KINDS = {0, 1, 2, 3, 4};

    private final CountKeyStore x = new CountKeyStore();
    private final Model m = new Model();
    private final Random random;
    private final int theme;
    private final int names;
    private final StringBuilder told = new StringBuilder();
    private boolean wrong;

    private ModelTest(long seed) {
        random = new Random(seed);
        theme = random.nextInt(6);
        names = 1 + random.nextInt(4) * random.nextInt(4);
    }

    public static void main(String[] args) {
        for (int run = 0; run < RUNS; run++) {
            ModelTest test = new ModelTest(run);
            test.run();
            Due.holds("run " + run, !test.wrong);
            if (test.wrong) {
                String told = test.told.toString();
                System.out.println(told.substring(Math.max(0, told.length() - 1500)));
            }
        }
        Due.settle();
    }

    private void run() {
        for (int call = 0; call < CALLS && !wrong; call++) {
            if (theme == 0 || random.nextInt(10) == 0) {
                program();
            } else {
                volume();
            }
            if (call % 20 == 0) {
                compareAll();
            }
        }
        compareAll();
    }

    private int ask(String call, long got, long due) {
        if (told.length() > 100000) {
            told.delete(0, 50000);
        }
        told.append(call).append(" = ").append(got).append('\n');
        if (got != due && !wrong) {
            wrong = true;
            told.append("  due was ").append(due).append('\n');
        }
        return (int) got;
    }

    private int below(int n) {
        return random.nextInt(n);
    }

    private boolean seldom() {
        return random.nextInt(25) == 0;
    }

    private int odd() {
        int[] all = {-1, 0, 1, Integer.MIN_VALUE, Integer.MAX_VALUE, 31, 32, 79, 80, 200, 2048, -3};
        return all[below(all.length)];
    }

    // ---- filling the buffer

    private void fill(int... bytes) {
        ask("end(0)", x.end(0), m.end(0));
        for (int i = 0; i < bytes.length; i += 20) {
            int[] w = new int[5];
            for (int j = 0; j < 20; j++) {
                w[j / 4] = w[j / 4] << 8 | (i + j < bytes.length ? bytes[i + j] : below(256));
            }
            ask("feed", x.feed(w[0], w[1], w[2], w[3], w[4]), m.feed(w));
        }
        ask("end(" + bytes.length + ")", x.end(bytes.length), m.end(bytes.length));
    }

    private void fillRandom(int n, int values) {
        int[] bytes = new int[n];
        for (int i = 0; i < n; i++) {
            bytes[i] = below(values);
        }
        fill(bytes);
    }

    private void fillName() {
        int n = below(names);
        fill(n == 0 ? new int[] {} : n % 3 == 0 ? new int[] {200 + n, 1, 2, 3, 4, 5, 6, 7, 8} : new int[] {64 + n, 66});
    }

    private void fillNameOfSet() {
        int d = below(10);
        for (int i = 0; i < 10 && m.sets[d] == null; i++) {
            d = (d + 1) % 10;
        }
        fill(m.sets[d] == null ? new int[] {} : Due.bytes(m.sets[d].name));
    }

    private void fillMember() {
        int n = below(theme == 5 && names % 2 == 0 ? 60 : 6);
        fill(n % 2 == 0 ? new int[] {77, n * 4} : new int[] {77, n * 4, 1, 2, 3, 4, 5, n, 9});
    }

    // ---- programs

    private void program() {
        switch (below(9)) {
            case 0: case 1: setProgram(); startAndLook(); break;
            case 2: case 3: setWriter(); startAndLook(); break;
            case 4: setAnything(); startAndLook(); break;
            case 5: pokeSomething(); startAndLook(); break;
            case 6: spoilSomething(1); break;
            case 7: setReader(); startAndLook(); break;
            default: arms(); break;
        }
    }

    private void arms() {
        int u = seldom() ? odd() : below(2);
        int what = seldom() ? odd() : below(2);
        ask("arm(" + u + ", " + what + ")", x.arm(u, what), m.arm(u, what));
    }

    private void startAndLook() {
        int u = seldom() ? odd() : below(8) == 0 ? 0 : 1;
        ask("start(" + u + ")", x.start(u), m.start(u));
        for (int what = -1; what <= 4; what++) {
            ask("status(" + what + ")", x.status(what), m.status(what));
        }
        ask("time()", x.time(), m.time);
    }

    private void set(int i, int op, int address, int length, int flags) {
        ask("command(" + i + ", " + op + ", " + address + ", " + length + ", " + flags + ")",
                x.command(i, op, address, length, flags), m.command(i, op, address, length, flags));
    }

    private void setAnything() {
        for (int i = below(4); i >= 0; i--) {
            set(seldom() ? odd() : below(6), seldom() ? odd() : below(18), seldom() ? odd() : below(20),
                    seldom() ? odd() : below(8), seldom() ? odd() : below(8));
        }
    }

    private void pokeSomething() {
        fillRandom(below(24), below(2) == 0 ? 3 : 256);
        int from = seldom() ? odd() : below(2) == 0 ? below(60) : below(2048);
        ask("poke(" + from + ")", x.poke(from), m.poke(from));
    }

    private void pokeAt(int from, int... bytes) {
        fill(bytes);
        ask("poke(" + from + ")", x.poke(from), m.poke(from));
    }

    private int any() {
        return below(3) == 0 ? 2 : 0;
    }

    private int drops() {
        return below(8) == 0 ? 4 : 0;
    }

    /** At 1000 the cylinder and the head, now and then wrong ones. */
    private int setSeek(int i) {
        int cylinder = below(30) == 0 ? 20 : below(3);
        int head = below(30) == 0 ? 4 : below(2);
        pokeAt(1000, cylinder, head, below(12) == 0 ? 9 : cylinder, head, head);
        if (below(2) == 0) {
            set(i++, 1, 1000, 2, 1);
        }
        if (below(6) == 0) {
            set(i++, 2, 1004, 1, 1);
        }
        return i;
    }

    /** A search and its jump. */
    private int setSearch(int i, int op) {
        int length = op == 3 ? 2 : op == 4 ? 3 : 1 + below(3);
        int address = op == 3 ? 1002 : 1100;
        pokeAt(1100, below(2), below(2), below(3), below(3), below(3));
        set(i, op, address, length, 1);
        set(i + 1, 7, i, 0, 1);
        return i + 2;
    }

    private void setWriter() {
        int i = setSeek(0);
        int op = 3 + below(4);
        i = setSearch(i, op);
        if (op != 3 && below(2) == 0) {
            pokeAt(1200, below(256), below(256), below(3), below(256), below(3), below(3), below(3), below(3));
            set(i, op == 4 && below(2) == 0 ? 13 : 12, 1200, below(9), any());
            return;
        }
        int records = 1 + below(4);
        int large = below(5) == 0 ? 1 : 0;
        for (int r = 0; r < records; r++) {
            int key = below(20) == 0 ? 58 + below(5) : below(4);
            int data = large == 1 ? (below(3) == 0 ? 1198 + below(4) : below(500)) : below(7);
            int at = 100 + r * 20;
            pokeAt(at, below(2), below(2), below(3), key, data / 256, data % 256, below(3), below(3), below(3),
                    below(3), below(256), below(256));
            int length = below(3) == 0 ? 6 + below(8) : Math.min(6 + key + data, 2048 - at);
            set(i++, 14, at, length, (r + 1 < records ? 1 : 0) + (below(8) == 0 ? any() : 2));
        }
        if (below(6) == 0) {
            set(i - 1, 14, 100, 12, 3);
            set(i, 15, odd(), odd(), below(2) == 0 ? 0 : 1);
            set(i + 1, 16, odd(), odd(), 0);
        }
    }

    private void setReader() {
        int i = setSeek(0);
        int n = 1 + below(6);
        for (int r = 0; r < n; r++) {
            int op = below(5) == 0 ? 16 : 8 + below(4);
            int length = op == 8 && below(5) > 0 ? 6 : below(4) == 0 ? below(1300) : below(12);
            set(i++, op, 300 + below(20), length, (r + 1 < n ? 1 : 0) + (below(5) == 0 ? 0 : 2) + drops());
        }
    }

    private void setProgram() {
        int i = setSeek(0);
        int n = 1 + below(4);
        for (int r = 0; r < n; r++) {
            if (below(2) == 0) {
                i = setSearch(i, 3 + below(4));
            } else if (below(2) == 0) {
                pokeAt(1100, below(2), below(2), below(3), below(3), below(3));
                int op = 4 + below(3);
                set(i++, op, 1100, op == 4 ? 3 : 1 + below(2), 1);
            }
            int op = below(7) == 0 ? 16 : 8 + below(4);
            set(i++, op, 300 + below(20), op == 8 ? 6 : below(10), (r + 1 < n ? 1 : 0) + (below(5) == 0 ? 0 : 2) + drops());
        }
    }

    private void spoilSomething(int u) {
        int track = u == 1 ? below(3) * 4 + below(2) : below(below(2) == 0 ? 4 : 79);
        for (int i = 0; i < 80 && m.units.get(u).get(track).isEmpty(); i++) {
            track = (track + 1) % 80;
        }
        int k = seldom() ? odd() : below(1 + m.units.get(u).get(track).size());
        track = seldom() ? odd() : track;
        int on = seldom() ? odd() : u;
        ask("spoil(" + on + ", " + track + ", " + k + ")", x.spoil(on, track, k) ? 1 : 0, m.spoil(on, track, k) ? 1 : 0);
    }

    // ---- the volume and its records

    private void volume() {
        switch (below(22)) {
            case 0: case 1: allocate(); break;
            case 2: if (below(4) == 0) { fillName(); ask("scratch", x.scratch(), m.scratch()); } break;
            case 3: if (below(3) == 0) { extend(); } break;
            case 4: case 5: case 6: open(); break;
            case 7: close(); break;
            case 8: spoilSomething(0); break;
            case 9: look(); break;
            case 10: case 11: library(); break;
            case 12: case 13: members(); break;
            case 14: case 15: keyed(); break;
            default: records(); break;
        }
    }

    private void allocate() {
        int kind = theme == 0 || below(4) == 0 ? KINDS[below(5)] : theme - 1;
        int tracks = below(8) == 0 ? below(80) : 1 + below(5);
        int a;
        int b;
        switch (kind) {
            case 0: case 4:
                a = below(3) == 0 ? 1 + below(200) : 100 + below(100);
                b = 1 + below(below(3) == 0 ? 20 : Math.max(1, 1200 / a));
                break;
            case 3:
                a = 1 + below(8);
                b = below(3) == 0 ? below(4) : below(401);
                break;
            default:
                a = 0;
                b = below(2) == 0 ? 8 + below(20) : 8 + below(1193);
                break;
        }
        if (seldom()) {
            kind = odd();
        }
        if (seldom()) {
            a = odd();
        }
        if (seldom()) {
            b = odd();
        }
        if (seldom()) {
            tracks = odd();
        }
        boolean atOnce = below(4) == 0;
        fillName();
        ask("allocate(" + kind + ", " + tracks + ", " + a + ", " + b + ", " + atOnce + ")",
                x.allocate(kind, tracks, a, b, atOnce), m.allocate(kind, tracks, a, b, atOnce));
    }

    private void extend() {
        int tracks = seldom() ? odd() : 1 + below(4);
        fillName();
        ask("extend(" + tracks + ")", x.extend(tracks), m.extend(tracks));
    }

    private void open() {
        int mode = seldom() ? odd() : below(3);
        if (below(4) == 0) {
            fillName();
        } else {
            fillNameOfSet();
        }
        ask("open(" + mode + ")", x.open(mode), m.open(mode));
    }

    private void close() {
        int h = handle();
        ask("close(" + h + ")", x.close(h), m.close(h));
    }

    private int handle() {
        return seldom() ? odd() : below(4);
    }

    /** One that is open with such a kind, if there is one; mostly. */
    private int handleOf(int... kinds) {
        List<Integer> all = new ArrayList<>();
        for (int h = 0; h < 4; h++) {
            for (int kind : kinds) {
                if (m.handles[h] != null && setOf(h).kind == kind) {
                    all.add(h);
                }
            }
        }
        return all.isEmpty() || seldom() ? handle() : all.get(below(all.size()));
    }

    private Model.Set setOf(int h) {
        return h < 0 || h > 3 || m.handles[h] == null ? null : m.sets[m.handles[h].d];
    }

    private void look() {
        int d = seldom() ? odd() : below(10);
        int what = below(2) == 0 ? below(30) : odd();
        ask("dataSet(" + d + ", " + what + ")", x.dataSet(d, what), m.dataSet(d, what));
        int h = handle();
        int which = seldom() ? odd() : below(5);
        ask("opened(" + h + ", " + which + ")", x.opened(h, which), m.opened(h, which));
        ask("count(" + which + ")", x.count(which), m.count(which));
        int i = below(3) == 0 ? odd() : below(1200);
        ask("out(" + i + ")", x.out(i), m.out(i));
        ask("memory(" + i + ")", x.memory(i), m.memory(i));
    }

    private void library() {
        int d = below(6) == 0 ? below(10) : anyLibrary();
        int i = seldom() ? odd() : below(theme == 5 ? 4 : 8);
        switch (below(6)) {
            case 0: case 1: ask("memberAt(" + d + ", " + i + ")", x.memberAt(d, i), m.memberAt(d, i)); break;
            case 2: case 3: ask("drop(" + d + ", " + i + ")", x.drop(d, i), m.drop(d, i)); break;
            default: ask("press(" + d + ")", x.press(d), m.press(d)); break;
        }
    }

    private int anyLibrary() {
        for (int d = 0; d < 10; d++) {
            if (m.sets[d] != null && m.sets[d].kind == 4 && below(3) > 0) {
                return d;
            }
        }
        return below(10);
    }

    private void members() {
        int h = handleOf(4);
        Model.Set s = setOf(h);
        if (s != null && s.kind == 4 && m.handles[h].mode != 1 && !s.members.isEmpty() && below(5) > 0) {
            int i = below(s.members.size());
            fill(Due.bytes(new ArrayList<>(s.members.keySet()).get(i)));
        } else {
            fillMember();
        }
        if (s != null && m.handles[h].mode == 1 && names % 2 == 0 && theme == 5) {
            for (int i = 0; i < 12; i++) {
                ask("stow(" + h + ")", x.stow(h), m.stow(h));
                fillMember();
            }
        }
        if (s != null && m.handles[h].mode == 1 || seldom()) {
            ask("stow(" + h + ")", x.stow(h), m.stow(h));
        } else {
            ask("member(" + h + ")", x.member(h), m.member(h));
        }
    }

    private void keyed() {
        int h = handleOf(3);
        Model.Set s = setOf(h);
        int a = s == null ? 1 : s.a;
        int b = s == null ? 1 : s.b;
        for (int i = below(6); i >= 0; i--) {
            if (below(3) == 0) {
                fillRandom(seldom() ? below(9) : a, 3);
                ask("getKeyed(" + h + ")", x.getKeyed(h), m.getKeyed(h));
            } else {
                fillRandom(seldom() ? below(99) : a + b, below(3) == 0 ? 256 : 3);
                ask("putKeyed(" + h + ")", x.putKeyed(h), m.putKeyed(h));
            }
        }
    }

    private void records() {
        int h = handleOf(0, 1, 2, 4);
        Model.Set s = setOf(h);
        int n = 1 + below(12);
        for (int i = 0; i < n; i++) {
            if (s != null && m.handles[h].mode == 1 || seldom()) {
                fillRandom(recordLength(s), 256);
                ask("put(" + h + ")", x.put(h), m.put(h));
                ask("opened(" + h + ", 3)", x.opened(h, 3), m.opened(h, 3));
            } else {
                ask("get(" + h + ")", x.get(h), m.get(h));
                compareOut();
            }
            if (below(4) == 0 && s != null && m.handles[h].mode == 2 || seldom()) {
                fillRandom(seldom() ? below(20) : m.out.length, 256);
                ask("rewrite(" + h + ")", x.rewrite(h), m.rewrite(h));
            }
        }
    }

    private int recordLength(Model.Set s) {
        if (s == null || seldom()) {
            return below(30);
        }
        switch (s.kind) {
            case 1: return below(2) == 0 ? s.b - 4 - below(Math.min(20, s.b - 3)) : below(s.b - 3);
            case 2: return below(3) == 0 ? below(4) : below(3) == 0 ? below(1201) : below(100);
            default: return s.a;
        }
    }

    // ---- comparing

    private void compareOut() {
        ask("count(4)", x.count(4), m.out.length);
        for (int i = 0; i < m.out.length && !wrong; i++) {
            if (x.out(i) != m.out[i]) {
                ask("out(" + i + ")", x.out(i), m.out[i]);
            }
        }
    }

    private void compareAll() {
        compareOut();
        for (int i = 0; i < 2048; i++) {
            quiet("memory", i, x.memory(i), m.memory(i));
        }
        for (int u = 0; u < 2; u++) {
            quiet("arm", u, x.arm(u, 0), m.arm(u, 0));
            quiet("arm", u, x.arm(u, 1), m.arm(u, 1));
            for (int track = 0; track < 80; track++) {
                compareTrack(u, track);
            }
        }
        for (int d = 0; d < 10; d++) {
            for (int what = 0; what < 30; what++) {
                quiet("dataSet " + d, what, x.dataSet(d, what), m.dataSet(d, what));
            }
        }
        for (int h = 0; h < 4; h++) {
            for (int what = 0; what < 4; what++) {
                quiet("opened " + h, what, x.opened(h, what), m.opened(h, what));
            }
        }
        for (int what = 0; what < 5; what++) {
            quiet("count", what, x.count(what), m.count(what));
        }
    }

    private void compareTrack(int u, int track) {
        int n = m.units.get(u).get(track).size();
        String name = "record " + u + " " + track;
        quiet(name, n, x.record(u, track, n, 0), -1);
        for (int k = 0; k < n; k++) {
            for (int what = -1; what < 9; what++) {
                quiet(name + " " + k, what, x.record(u, track, k, what), m.record(u, track, k, what));
            }
            for (int what = 99; what < 100 + x.record(u, track, k, 3) + 1; what++) {
                quiet(name + " " + k, what, x.record(u, track, k, what), m.record(u, track, k, what));
            }
            for (int what = 199; what < 200 + x.record(u, track, k, 4) + 1; what++) {
                quiet(name + " " + k, what, x.record(u, track, k, what), m.record(u, track, k, what));
            }
        }
    }

    private void quiet(String call, int what, long got, long due) {
        if (got != due && !wrong) {
            ask(call + " " + what, got, due);
        }
    }
}
