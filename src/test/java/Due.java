/** Counts the answers that are not as due, and helps to fill the buffer. */
final class Due {
    private static int asked = 0;
    private static int wrong = 0;

    private Due() {
    }

    static void is(String call, long got, long want) {
        asked++;
        if (got != want) {
            wrong++;
            System.out.println(line() + ": " + call + " answered " + got + ", due is " + want);
        }
    }

    static void holds(String what, boolean does) {
        asked++;
        if (!does) {
            wrong++;
            System.out.println(line() + ": " + what + " does not hold");
        }
    }

    /** The lines of the test that led here, the innermost first; its helpers are told too. */
    private static String line() {
        StringBuilder lines = new StringBuilder();
        for (StackTraceElement at : Thread.currentThread().getStackTrace()) {
            if (at.getLineNumber() > 0 && at.getClassName().endsWith("Test") && !at.getMethodName().equals("main")) {
                lines.append(lines.length() == 0 ? "" : " < ").append(at.getMethodName()).append(" (")
                        .append(at.getFileName()).append(':').append(at.getLineNumber()).append(')');
            }
        }
        return lines.toString();
    }

    /** The last line of a test's main: it ends with exit code 1 if an answer was wrong. */
    static void settle() {
        System.out.println(asked + " answers, " + wrong + " of them not as due");
        if (wrong != 0 || asked == 0) {
            System.exit(1);
        }
    }

    /** The buffer has these bytes (each an int 0 .. 255). */
    static void fill(CountKeyStore x, int... bytes) {
        x.end(0);
        for (int i = 0; i < bytes.length; i += 20) {
            x.feed(word(bytes, i), word(bytes, i + 4), word(bytes, i + 8), word(bytes, i + 12), word(bytes, i + 16));
        }
        if (x.end(bytes.length) != bytes.length) {
            throw new IllegalStateException("the buffer did not take " + bytes.length + " bytes");
        }
    }

    private static int word(int[] bytes, int i) {
        int value = 0;
        for (int j = i; j < i + 4; j++) {
            value = value << 8 | (j < bytes.length ? bytes[j] & 255 : 0);
        }
        return value;
    }

    static int[] bytes(String text) {
        int[] bytes = new int[text.length()];
        for (int i = 0; i < bytes.length; i++) {
            bytes[i] = text.charAt(i);
        }
        return bytes;
    }

    static void fill(CountKeyStore x, String text) {
        fill(x, bytes(text));
    }

    /** So many bytes, counted up from a first one. */
    static int[] row(int n, int first) {
        int[] bytes = new int[n];
        for (int i = 0; i < n; i++) {
            bytes[i] = (first + i) & 255;
        }
        return bytes;
    }

    static int[] join(int[] a, int[] b) {
        int[] both = java.util.Arrays.copyOf(a, a.length + b.length);
        System.arraycopy(b, 0, both, a.length, b.length);
        return both;
    }

    static void poke(CountKeyStore x, int from, int... bytes) {
        fill(x, bytes);
        if (x.poke(from) != bytes.length) {
            throw new IllegalStateException("memory did not take the bytes");
        }
    }

    static String out(CountKeyStore x) {
        StringBuilder text = new StringBuilder();
        for (int i = 0; i < x.count(4); i++) {
            text.append((char) x.out(i));
        }
        return text.toString();
    }

    /** Of a long row not each byte is asked, but its last is: an object has 512 calls. */
    private static int next(int i, int n) {
        int step = n <= 60 ? 1 : 1 + n / 8;
        return i < n - 1 ? Math.min(i + step, n - 1) : n;
    }

    static boolean outIs(CountKeyStore x, int... bytes) {
        if (x.count(4) != bytes.length || x.out(bytes.length) != CountKeyStore.NONE) {
            return false;
        }
        for (int i = 0; i < bytes.length; i = next(i, bytes.length)) {
            if (x.out(i) != bytes[i]) {
                return false;
            }
        }
        return true;
    }

    /** The data of a record of unit 0 are these. */
    static boolean dataIs(CountKeyStore x, int track, int k, int... bytes) {
        if (x.record(0, track, k, 4) != bytes.length) {
            return false;
        }
        for (int i = 0; i < bytes.length; i = next(i, bytes.length)) {
            if (x.record(0, track, k, 200 + i) != bytes[i]) {
                return false;
            }
        }
        return x.record(0, track, k, 200 + bytes.length) == CountKeyStore.NONE;
    }

    static boolean keyIs(CountKeyStore x, int unit, int track, int k, int... bytes) {
        if (x.record(unit, track, k, 3) != bytes.length) {
            return false;
        }
        for (int i = 0; i < bytes.length; i++) {
            if (x.record(unit, track, k, 100 + i) != bytes[i]) {
                return false;
            }
        }
        return x.record(unit, track, k, 100 + bytes.length) == CountKeyStore.NONE;
    }

    static int allocate(CountKeyStore x, String name, int kind, int tracks, int a, int b) {
        fill(x, name);
        return x.allocate(kind, tracks, a, b, false);
    }

    static int open(CountKeyStore x, String name, int mode) {
        fill(x, name);
        return x.open(mode);
    }

    static int put(CountKeyStore x, int h, int... bytes) {
        fill(x, bytes);
        return x.put(h);
    }

    static int stow(CountKeyStore x, int h, String name) {
        fill(x, name);
        return x.stow(h);
    }

    static int member(CountKeyStore x, int h, String name) {
        fill(x, name);
        return x.member(h);
    }
}
