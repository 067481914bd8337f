import java.util.Random;

/** Any arguments in any state, also far beyond 512 calls: no call throws, and bad ones change nothing. */
public final class HostileTest {
    private static final int[] WILD = {Integer.MIN_VALUE, Integer.MIN_VALUE + 1, -1000, -2, -1, 0, 1, 2, 3, 4, 5, 7, 8,
        9, 12, 13, 15, 16, 31, 32, 99, 100, 126, 200, 255, 256, 9999, 10000, Integer.MAX_VALUE - 1, Integer.MAX_VALUE};
    private static final Check CHECK = new Check("HostileTest");

    public static void main(String[] args) {
        wildCalls();
        timeBeyondAllBounds();
        badCallsChangeNothing();
        CHECK.finish();
    }

    private static int wild(Random random) {
        return random.nextInt(3) == 0 ? WILD[random.nextInt(WILD.length)] : random.nextInt(10);
    }

    private static void wildCalls() {
        for (int seed = 0; seed < 200; seed++) {
            Random random = new Random(seed);
            PassingFrames x = new PassingFrames();
            for (int i = 0; i < 4000; i++) {
                call(x, random, random.nextInt(31));
            }
        }
        CHECK.isTrue("no call threw", true);
    }

    private static void call(PassingFrames x, Random random, int which) {
        int a = wild(random);
        int b = wild(random);
        int c = wild(random);
        int d = wild(random);
        int e = wild(random);
        switch (which) {
            case 0: Check.write(x, "d" + (10 + random.nextInt(90)) + "12345;"); break;
            case 1: x.write(a); break;
            case 2: x.fault(); break;
            case 3: x.lay(); break;
            case 4: x.device(a, b); break;
            case 5: x.memory(a, b); break;
            case 6: x.own(a, b, c); break;
            case 7: x.cut(a, b); break;
            case 8: x.lose(a); break;
            case 9: x.state(a, b); break;
            case 10: x.map(a, b, c, d, e); break;
            case 11: x.unmap(a, b); break;
            case 12: x.mapped(a, b, c); break;
            case 13: x.gram(a, b, c, d, e); break;
            case 14: x.clear(a); break;
            case 15: x.put(a, b, c); break;
            case 16: x.send(); break;
            case 17: x.home(a, b); break;
            case 18: x.expected(a); break;
            case 19: x.tell(a, b); break;
            case 20: x.take(a); break;
            case 21: x.fetch(a); break;
            case 22: x.push(a, b); break;
            case 23: x.again(a); break;
            case 24: x.box(a, b); break;
            case 25: x.later(a); break;
            case 26: x.level(); break;
            case 27: x.steer(a); break;
            case 28: x.clock(a, b); break;
            case 29: x.apart(); break;
            default:
                x.count(a);
                if (random.nextInt(20) == 0) {
                    x.wipe();
                }
                break;
        }
    }

    private static void timeBeyondAllBounds() {
        PassingFrames x = new PassingFrames();
        x.gram(0, 7, 0, 0, 8);
        for (int i = 0; i < 500000; i++) {
            x.later(9999);
            if (i % 1000 == 0) {
                x.send();
                x.level();
                x.steer(9);
                x.memory(0, 2);
                x.memory(0, 3);
                x.apart();
            }
        }
        CHECK.isTrue("no call threw when the time went round", true);
    }

    /** All that can be asked of an object, as one number. */
    private static long look(PassingFrames x) {
        long all = 17;
        for (int i = 0; i < 16; i++) {
            for (int d = 0; d < 8; d++) {
                all = all * 31 + x.device(d, i);
                all = all * 31 + x.memory(d, i);
                all = all * 31 + x.box(d, i);
                all = all * 31 + x.clock(d, i);
                all = all * 31 + x.mapped(d, 0, i);
                all = all * 31 + x.mapped(d, 1, i);
                all = all * 31 + x.home(d, i - 1);
            }
            all = all * 31 + x.count(i);
            all = all * 31 + x.expected(i);
        }
        return (all * 31 + x.fault()) * 31 + x.apart();
    }

    private static void badCallsChangeNothing() {
        PassingFrames x = new PassingFrames();
        Check.write(x, "d0110000;e");
        for (int d = 0; d < 4; d++) {
            Check.enter(x, d, 3);
            x.map(d, 0, 8 * d, 4, 0);
            x.map(d, 1, 8 * d, 4, 4);
            x.tell(d, d + 1);
        }
        x.gram(0, 12, 0, 0, 8);
        x.gram(1, 9, 0, 0, 8);
        x.send();
        x.lose(1);
        x.push(0, 3);
        x.lose(2);
        long before = look(x);
        for (int bad : new int[] {Integer.MIN_VALUE, -1, 32, 300, Integer.MAX_VALUE}) {
            int sum = x.cut(bad, 1) + x.cut(1, bad) + x.own(bad, 4, 1) + x.own(0, bad, 1) + x.state(bad, 1)
                    + x.state(0, bad) + x.map(bad, 0, 0, 1, 0) + x.map(0, bad, 0, 1, 4) + x.map(0, 0, bad, 1, 0)
                    + x.map(0, 0, 0, bad, 0) + x.map(0, 0, 0, 1, bad) + x.unmap(bad, 0) + x.unmap(0, bad)
                    + x.gram(bad, 1, 0, 0, 1) + x.gram(0, bad, 0, 0, 1) + x.gram(0, 1, bad, 0, 1)
                    + x.gram(0, 1, 0, bad, 1) + x.gram(0, 1, 0, 0, bad) + x.clear(bad) + x.put(bad, 0, 1)
                    + x.put(0, bad, 1) + x.tell(bad, 1) + x.take(bad) + x.fetch(bad) + x.push(bad, 1)
                    + x.again(bad) + x.lose(bad) + x.steer(bad == 32 ? 100 : bad) + x.write(bad == 32 ? 31 : bad);
            CHECK.due("29 bad calls with " + bad, sum, -29);
        }
        CHECK.due("put(0, 0, -1)", x.put(0, 0, -1), -1);
        CHECK.due("later(0)", x.later(0), -1);
        CHECK.due("later(10000)", x.later(10000), -1);
        CHECK.due("cut(1, 0)", x.cut(1, 0), -2);
        CHECK.due("state(0, 3)", x.state(0, 3), -2);
        CHECK.due("push(0, 1) while one is pending", x.push(0, 1), -2);
        CHECK.due("again(1) of none", x.again(1), -2);
        CHECK.due("lay() of a fault", x.lay(), -2);
        CHECK.due("map on places of another", x.map(1, 0, 0, 1, 0), -2);
        CHECK.isTrue("nothing has changed", look(x) == before);
    }
}
