import java.util.Random;

/** No call throws or fails to end, whatever its arguments, in whatever state the object is. */
public final class RobustTest {
    private static final int[] ODD = {
        Integer.MIN_VALUE, Integer.MIN_VALUE + 1, -1500, -100, -9, -2, -1, 0, 1, 2, 3, 4, 5, 6, 7, 8, 9, 10, 11, 12, 13, 14,
        15, 16, 17, 20, 23, 30, 31, 32, 39, 40, 41, 47, 48, 49, 50, 60, 61, 78, 79, 80, 99, 100, 159, 160, 199, 200, 201,
        255, 256, 400, 401, 1199, 1200, 1201, 1399, 1400, 1470, 1500, 2047, 2048, 2049, 65535, Integer.MAX_VALUE - 1,
        Integer.MAX_VALUE,
    };

    public static void main(String[] args) {
        for (int run = 0; run < 400; run++) {
            Random random = new Random(run);
            CountKeyStore x = new CountKeyStore();
            int done = 0;
            try {
                for (; done < 512; done++) {
                    call(x, random);
                }
            } catch (RuntimeException e) {
                e.printStackTrace(System.out);
            }
            Due.is("calls of run " + run, done, 512);
        }
        Due.settle();
    }

    private static int any(Random random) {
        return random.nextInt(3) == 0 ? random.nextInt(4) : ODD[random.nextInt(ODD.length)];
    }

    private static void call(CountKeyStore x, Random random) {
        int a = any(random);
        int b = any(random);
        int c = any(random);
        int d = any(random);
        int e = any(random);
        switch (random.nextInt(36)) {
            case 0: x.feed(a, b, c, d, e); break;
            case 1: x.end(a); break;
            case 2: x.out(a); break;
            case 3: case 31: case 32: x.command(random.nextInt(4), 1 + random.nextInt(16), b, c, random.nextInt(8)); break;
            case 4: x.memory(a); break;
            case 5: x.poke(a); break;
            case 6: x.start(a); break;
            case 7: x.status(a); break;
            case 8: x.time(); break;
            case 9: x.arm(a, b); break;
            case 10: x.record(a, b, c, d); break;
            case 11: x.spoil(a, b, c); break;
            case 12: case 33: x.allocate(a, b, c, d, random.nextBoolean()); break;
            case 13: x.scratch(); break;
            case 14: x.extend(a); break;
            case 15: x.dataSet(a, b); break;
            case 16: x.count(a); break;
            case 17: case 34: x.open(a); break;
            case 18: x.close(a); break;
            case 19: x.put(a); break;
            case 20: x.get(a); break;
            case 21: x.rewrite(a); break;
            case 22: x.putKeyed(a); break;
            case 23: x.getKeyed(a); break;
            case 24: x.member(a); break;
            case 25: x.stow(a); break;
            case 26: x.memberAt(a, b); break;
            case 27: x.drop(a, b); break;
            case 28: x.press(a); break;
            case 29: x.opened(a, b); break;
            case 30: x.command(a, b, c, d, e); break;
            default: x.allocate(random.nextInt(5), 1 + random.nextInt(9), random.nextInt(3), 8 + random.nextInt(9), true); break;
        }
    }
}
