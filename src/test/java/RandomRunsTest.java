import java.util.Random;

/** Long runs of calls, each compared with the model; the seeds are fixed. */
public final class RandomRunsTest {
    private static final int RUNS = 3000;
    private static final int CALLS = 512;

    private final Random random;
    private final PassingFrames x = new PassingFrames();
    private final Model y = new Model();
    private final StringBuilder log = new StringBuilder();
    private final int[] weights;
    private boolean alike = true;

    private RandomRunsTest(long seed) {
        random = new Random(seed);
        // each run likes other calls
        weights = new int[31];
        for (int i = 0; i < weights.length; i++) {
            weights[i] = random.nextInt(4) == 0 ? 12 : 2;
        }
        weights[CALL_WIPE] = 1;
        weights[CALL_LAY] = 1;
    }

    private static final int CALL_WIPE = 1, CALL_LAY = 3;

    public static void main(String[] args) {
        int wrong = 0;
        for (int seed = 0; seed < RUNS && wrong < 5; seed++) {
            RandomRunsTest run = new RandomRunsTest(seed);
            if (!run.run()) {
                wrong++;
                System.out.println("seed " + seed + ":\n" + run.log);
            }
        }
        System.out.println("RandomRunsTest: " + RUNS + " runs, " + wrong + " not as due");
        if (wrong != 0) {
            System.exit(1);
        }
    }

    private boolean run() {
        if (random.nextBoolean()) {
            layRandomRing();
        }
        for (int i = 0; i < CALLS && alike; i++) {
            call(pick());
            if (i % 64 == 63) {
                compareAll();
            }
        }
        compareAll();
        return alike;
    }

    private void due(String call, int got, int want) {
        log.append(call).append(" = ").append(got).append('\n');
        if (got != want && alike) {
            log.append("due is ").append(want).append('\n');
            alike = false;
        }
    }

    private int pick() {
        int sum = 0;
        for (int w : weights) {
            sum += w;
        }
        int r = random.nextInt(sum);
        for (int i = 0; i < weights.length; i++) {
            r -= weights[i];
            if (r < 0) {
                return i;
            }
        }
        return 0;
    }

    /** Mostly from least to most, sometimes one beside it, rarely something wild. */
    private int in(int least, int most) {
        int r = random.nextInt(80);
        if (r == 0) {
            return least - 1;
        }
        if (r == 1) {
            return most + 1;
        }
        if (r == 2 && random.nextInt(5) == 0) {
            int[] wild = {Integer.MIN_VALUE, Integer.MAX_VALUE, -77, 1000, 65536, random.nextInt()};
            return wild[random.nextInt(wild.length)];
        }
        return least + random.nextInt(most - least + 1);
    }

    private int dev() {
        return in(0, Math.max(0, x.count(0) - 1));
    }

    private String randomItem() {
        int r = random.nextInt(12);
        if (r == 0) {
            return "" + (char) (32 + random.nextInt(95));
        }
        if (r < 4) {
            return String.format("e%d%d%d;", random.nextInt(10), random.nextInt(10), random.nextInt(10));
        }
        int rate = random.nextInt(random.nextInt(10) == 0 ? 10 : 9);
        int wire = random.nextInt(10) == 0 ? random.nextInt(10) : 1 + random.nextInt(9);
        return String.format("d%02d%d%03d%d;", random.nextInt(100), wire, random.nextInt(1000), rate);
    }

    private void writeText(String text) {
        for (int i = 0; i < text.length(); i++) {
            char c = text.charAt(i);
            due("write(" + (int) c + ")", x.write(c), y.write(c));
        }
    }

    private void layRandomRing() {
        int size = 1 + random.nextInt(8);
        int number = 1 + random.nextInt(10);
        StringBuilder text = new StringBuilder();
        for (int d = 0; d < size; d++) {
            text.append(String.format("d%02d%d%03d%d;", number, 1 + random.nextInt(9), random.nextInt(1000),
                    random.nextInt(9)));
            number += 1 + random.nextInt(11);
        }
        if (random.nextInt(4) > 0) {
            text.append(String.format("e%d%d%d;", 1 + random.nextInt(9), random.nextInt(10), random.nextInt(10)));
        }
        writeText(text.toString());
        due("fault()", x.fault(), y.fault());
        due("lay()", x.lay(), y.lay());
        due("wipe()", x.wipe(), y.wipe());
    }

    private int letter() {
        return random.nextInt(20) == 0 ? in(32, 126) : "de;0123456789".charAt(random.nextInt(13));
    }

    private void call(int which) {
        int d = dev();
        int i = in(0, 3);
        switch (which) {
            case 0: one("write", letter()); break;
            case CALL_WIPE: due("wipe()", x.wipe(), y.wipe()); break;
            case 2: due("fault()", x.fault(), y.fault()); break;
            case CALL_LAY: layOrItem(); break;
            case 4: two("device", d, in(0, 5)); break;
            case 5: two("memory", d, in(0, 15)); break;
            case 6: three("own", d, in(4, 15), in(0, 255)); break;
            case 7: two("cut", in(0, x.count(0)), random.nextInt(3) == 0 ? in(0, 1) : random.nextInt(3) / 2); break;
            case 8: one("lose", random.nextInt(3) == 0 ? in(0, 9) : in(0, 2)); break;
            case 9: two("state", d, random.nextInt(4) == 0 ? in(0, 3) : x.device(d, 4) + 1); break;
            case 10: map(d); break;
            case 11: two("unmap", d, in(0, 1)); break;
            case 12: three("mapped", d, in(0, 1), in(0, 2)); break;
            case 13: case 14: gram(i); break;
            case 15: one("clear", i); break;
            case 16: three("put", i, in(0, 7), in(0, 255)); break;
            case 17: case 18: send(); break;
            case 19: one("expected", i); break;
            case 20: two("tell", d, in(1, 255)); break;
            case 21: one("take", d); break;
            case 22: one("fetch", d); break;
            case 23: two("push", d, in(1, 255)); break;
            case 24: one("again", d); break;
            case 25: two("box", d, in(0, 7)); break;
            case 26: one("later", random.nextBoolean() ? in(1, 9999) : in(1, 40)); break;
            case 27: due("level()", x.level(), y.level()); break;
            case 28: one("steer", in(1, 99)); break;
            case 29: two("clock", d, in(0, 3)); break;
            default: one("count", in(0, 12)); break;
        }
    }

    private void layOrItem() {
        int r = random.nextInt(4);
        if (r == 0) {
            layRandomRing();
        } else if (r == 1) {
            due("lay()", x.lay(), y.lay());
        } else {
            writeText(randomItem());
            due("fault()", x.fault(), y.fault());
        }
    }

    private void map(int d) {
        int i = in(0, 1);
        int n = in(1, 8);
        int place = in(0, n >= 1 && n <= 8 ? 32 - n : 31);
        int b = in(i == 1 ? 4 : 0, n >= 1 && n <= 8 ? Math.max(4, 16 - n) : 15);
        due("map(" + d + ", " + i + ", " + place + ", " + n + ", " + b + ")", x.map(d, i, place, n, b),
                y.map(d, i, place, n, b));
    }

    private void gram(int i) {
        int command = in(1, 12);
        int n = random.nextBoolean() ? in(1, 2) : in(1, 8);
        int address = in(0, 0);
        if (command <= 3) {
            address = in(0, random.nextBoolean() ? 2 : 7);
        } else if (command <= 6) {
            address = random.nextInt(6) == 0 ? in(1, 99) : x.device(dev(), 0);
        } else if (command >= 10) {
            address = in(0, Math.max(0, Math.min(31, 32 - n)));
        }
        int offset = command >= 10 ? in(0, 0) : in(random.nextBoolean() ? 4 : 0, random.nextBoolean() ? 8 : 15);
        due("gram(" + i + ", " + command + ", " + address + ", " + offset + ", " + n + ")",
                x.gram(i, command, address, offset, n), y.gram(i, command, address, offset, n));
    }

    private void send() {
        due("send()", x.send(), y.send());
        for (int i = 0; i < 4; i++) {
            for (int k = -1; k < 8; k++) {
                two("home", i, k);
            }
        }
        two("home", in(0, 3), in(-1, 7));
    }

    private void one(String name, int a) {
        String call = name + "(" + a + ")";
        switch (name) {
            case "write": due(call, x.write(a), y.write(a)); break;
            case "lose": due(call, x.lose(a), y.lose(a)); break;
            case "clear": due(call, x.clear(a), y.clear(a)); break;
            case "expected": due(call, x.expected(a), y.expected(a)); break;
            case "take": due(call, x.take(a), y.take(a)); break;
            case "fetch": due(call, x.fetch(a), y.fetch(a)); break;
            case "again": due(call, x.again(a), y.again(a)); break;
            case "later": due(call, x.later(a), y.later(a)); break;
            case "steer": due(call, x.steer(a), y.steer(a)); break;
            case "count": due(call, x.count(a), y.count(a)); break;
            default: throw new IllegalStateException(name);
        }
    }

    private void two(String name, int a, int b) {
        String call = name + "(" + a + ", " + b + ")";
        switch (name) {
            case "device": due(call, x.device(a, b), y.device(a, b)); break;
            case "memory": due(call, x.memory(a, b), y.memory(a, b)); break;
            case "cut": due(call, x.cut(a, b), y.cut(a, b)); break;
            case "state": due(call, x.state(a, b), y.state(a, b)); break;
            case "unmap": due(call, x.unmap(a, b), y.unmap(a, b)); break;
            case "home": due(call, x.home(a, b), y.home(a, b)); break;
            case "tell": due(call, x.tell(a, b), y.tell(a, b)); break;
            case "push": due(call, x.push(a, b), y.push(a, b)); break;
            case "box": due(call, x.box(a, b), y.box(a, b)); break;
            case "clock": due(call, x.clock(a, b), y.clock(a, b)); break;
            default: throw new IllegalStateException(name);
        }
    }

    private void three(String name, int a, int b, int c) {
        String call = name + "(" + a + ", " + b + ", " + c + ")";
        switch (name) {
            case "own": due(call, x.own(a, b, c), y.own(a, b, c)); break;
            case "mapped": due(call, x.mapped(a, b, c), y.mapped(a, b, c)); break;
            case "put": due(call, x.put(a, b, c), y.put(a, b, c)); break;
            default: throw new IllegalStateException(name);
        }
    }

    private void compareAll() {
        for (int what = 0; what <= 12; what++) {
            one("count", what);
        }
        due("apart()", x.apart(), y.apart());
        due("fault()", x.fault(), y.fault());
        for (int i = 0; i < 4; i++) {
            one("expected", i);
        }
        for (int d = 0; d < x.count(0); d++) {
            compareDevice(d);
        }
    }

    private void compareDevice(int d) {
        for (int what = 0; what < 16; what++) {
            two("memory", d, what);
            if (what < 8) {
                two("box", d, what);
            }
            if (what < 6) {
                two("device", d, what);
            }
            if (what < 4) {
                two("clock", d, what);
            }
            if (what < 3) {
                three("mapped", d, 0, what);
                three("mapped", d, 1, what);
            }
        }
    }
}
