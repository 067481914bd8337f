/** The sentences of THE RING and of the promises 1 and 6 to 11 that name a boundary, each with a test of its own. */
public final class EdgesOfRingTest {
    private static final int BAD = -1, NO = -2, NONE = -4, LOST = -5, ZERO = 100000000;
    private static final Edges T = new Edges("EdgesOfRingTest");

    public static void main(String[] args) {
        theRing();
        theDevices();
        theBytes();
        theClocks();
        theSides();
        newObject();
        device();
        memory();
        own();
        cut();
        lose();
        whatIsLost();
        state();
        becomesInit();
        T.finish();
    }

    private static void theRing() {
        T.test("THE RING", "There are 1 to 8 devices, numbered from 0, in a ring", () -> {
            for (int n = 1; n <= 8; n++) {
                PassingFrames x = Edges.even(n);
                T.due("devices of " + n, x.count(0), n);
                T.due("device -1 of " + n, x.device(-1, 0), BAD);
                T.due("device 0 of " + n, x.device(0, 0), 1);
                T.due("the last device of " + n, x.device(n - 1, 0), n);
                T.due("the device behind it of " + n, x.device(n, 0), BAD);
            }
        });
        T.test("THE RING", "Wire 0 leads from the end A of the master to device 0", () -> {
            PassingFrames x = Edges.cut(new PassingFrames(), 0);
            T.due("A side", x.count(3), 0);
            T.due("B side", x.count(4), 4);
        });
        T.test("THE RING", "wire i from device i - 1 to device i", () -> {
            for (int w = 1; w <= 3; w++) {
                PassingFrames x = Edges.cut(new PassingFrames(), w);
                T.due("side of the device before wire " + w, x.device(w - 1, 5), 1);
                T.due("side of the device behind wire " + w, x.device(w, 5), 2);
            }
        });
        T.test("THE RING", "and the last wire, whose number is the number of devices, from the last device to the end B"
                + " of the master.", () -> {
            for (int n = 1; n <= 8; n++) {
                PassingFrames x = Edges.even(n);
                T.due("cut(n + 1, 1) of " + n, x.cut(n + 1, 1), BAD);
                T.due("cut(n, 1) of " + n, x.cut(n, 1), 1);
                T.due("A side of " + n, x.count(3), n);
                T.due("B side of " + n, x.count(4), 0);
                T.due("cut(-1, 1) of " + n, x.cut(-1, 1), BAD);
            }
        });
        T.test("THE RING", "A frame takes a certain time, 1 to 9, on each wire", () -> {
            T.due("1 and 1", Check.ring("d0110000;e100;").count(12), 2);
            T.due("9 and 1", Check.ring("d0190000;e100;").count(12), 10);
            T.due("1 and 9", Check.ring("d0110000;e900;").count(12), 10);
            T.due("9 and 9", Check.ring("d0190000;e900;").count(12), 18);
        });
        T.test("THE RING", "there are also two times, pass and turn (0 to 9 each)", () -> {
            T.due("pass 0", Check.ring("d0110000;d0210000;e109;").count(12), 3);
            T.due("pass 9", Check.ring("d0110000;d0210000;e190;").count(12), 21);
            T.due("turn 0", Edges.cut(Check.ring("d0110000;d0210000;e100;"), 2).count(12), 4);
            T.due("turn 9", Edges.cut(Check.ring("d0110000;d0210000;e109;"), 2).count(12), 13);
        });
        T.test("THE RING", "Wires may be cut (none at first).", () -> {
            T.due("count(2)", new PassingFrames().count(2), 0);
            for (int w = 0; w <= 4; w++) {
                T.due("cut(" + w + ", 0) at first", new PassingFrames().cut(w, 0), NO);
                T.due("cut(" + w + ", 1) at first", new PassingFrames().cut(w, 1), 1);
            }
        });
    }

    private static void theDevices() {
        T.test("THE RING", "A device has a number (1 to 99, different for all devices)", () -> {
            PassingFrames x = Check.ring("d0110000;d9910000;");
            T.due("the least number", x.device(0, 0), 1);
            T.due("the greatest number", x.device(1, 0), 99);
            T.due("alike numbers", Check.write(x, "d0110000;d0110000;") == 18 ? x.lay() : 0, NO);
        });
        T.test("THE RING", "a start (0 to 999)", () -> {
            PassingFrames x = Check.ring("d0110004;d0210014;d0319984;d0419994;");
            T.row("own clocks at time 0", new int[] {x.clock(0, 0), x.clock(1, 0), x.clock(2, 0), x.clock(3, 0)},
                    ZERO, ZERO + 1, ZERO + 998, ZERO + 999);
        });
        T.test("THE RING", "a rate (0 to 8)", () -> {
            for (int rate = 0; rate <= 8; rate++) {
                PassingFrames x = Check.ring("d011000" + rate + ";");
                x.later(100);
                T.due("own clock at time 100 with rate " + rate, x.clock(0, 0), ZERO + 96 + rate);
            }
        });
        T.test("THE RING", "a state (0 INIT, 1 PREP, 2 SAFE, 3 RUN; INIT at first)", () -> {
            PassingFrames x = Edges.even(8);
            for (int d = 0; d < 8; d++) {
                T.due("state of " + d + " at first", x.device(d, 4), 0);
            }
            T.due("state(0, 1)", x.state(0, 1), 0);
            T.due("state(0, 2)", x.state(0, 2), 1);
            T.due("state(0, 3)", x.state(0, 3), 2);
            T.due("state(0, 4)", x.state(0, 4), BAD);
            T.due("RUN", x.device(0, 4), 3);
        });
        T.test("THE RING", "an offset and a delay (both 0 at first)", () -> {
            PassingFrames x = Edges.even(8);
            for (int d = 0; d < 8; d++) {
                T.due("offset of " + d, x.clock(d, 2), ZERO);
                T.due("delay of " + d, x.clock(d, 3), 0);
            }
        });
        T.test("THE RING", "The time begins with 0.", () -> {
            T.due("count(1)", new PassingFrames().count(1), 0);
            T.due("count(1) of another ring", Edges.even(8).count(1), 0);
            T.due("later(1)", new PassingFrames().later(1), 1);
        });
    }

    private static void theBytes() {
        T.test("THE RING", "and 16 bytes of memory, 0 to 15, with values 0 to 255.", () -> {
            PassingFrames x = new PassingFrames();
            T.due("memory(0, -1)", x.memory(0, -1), BAD);
            T.due("memory(0, 0)", x.memory(0, 0), 11);
            T.due("memory(0, 15)", x.memory(0, 15), 0);
            T.due("memory(0, 16)", x.memory(0, 16), BAD);
            for (int v : new int[] {0, 1, 127, 128, 254, 255}) {
                x.own(0, 15, v);
                T.due("memory(0, 15) of " + v, x.memory(0, 15), v);
            }
            T.due("own(0, 15, 256)", x.own(0, 15, 256), BAD);
            T.due("own(0, 15, -1)", x.own(0, 15, -1), BAD);
        });
        T.test("THE RING", "Byte 0 is its number, byte 1 its state", () -> {
            PassingFrames x = Check.ring("d0110000;d9910000;");
            T.due("number 1", x.memory(0, 0), 1);
            T.due("number 99", x.memory(1, 0), 99);
            for (int state = 0; state <= 3; state++) {
                x.state(0, state);
                T.due("state " + state, x.memory(0, 1), state);
            }
            x.state(0, 0);
            T.due("state 0 again", x.memory(0, 1), 0);
        });
        T.test("THE RING", "the less significant byte first", () -> {
            clockBytes("d0112554;", 0, 255, 0);
            clockBytes("d0112564;", 0, 0, 1);
            clockBytes("d0112574;", 0, 1, 1);
            clockBytes("d0112554;", 1, 0, 1);
            clockBytes("d0115114;", 0, 255, 1);
            clockBytes("d0115124;", 0, 0, 2);
        });
        T.test("THE RING", "bytes 2 and 3 are its system clock modulo 65536 (0 to 65535)", () -> {
            clockBytes("d0110004;", 0, 0, 0);
            clockBytes("d0110004;", 65534, 254, 255);
            clockBytes("d0110004;", 65535, 255, 255);
            clockBytes("d0110004;", 65536, 0, 0);
            clockBytes("d0110004;", 65537, 1, 0);
            clockBytes("d0119994;", 64536, 255, 255);
            clockBytes("d0119994;", 64537, 0, 0);
            clockBytes("d0110004;", 131071, 255, 255);
            clockBytes("d0110004;", 131072, 0, 0);
            // the slow clock has lost 2731 then, the fast one has gained 2520
            clockBytes("d0110000;", 68266, 255, 255);
            clockBytes("d0110000;", 68267, 0, 0);
            clockBytes("d0110008;", 63015, 255, 255);
            clockBytes("d0110008;", 63016, 0, 0);
        });
        T.test("THE RING", "bytes 4 to 15 (0 at first) can be written.", () -> {
            PassingFrames x = new PassingFrames();
            for (int b = 4; b <= 15; b++) {
                T.due("memory(3, " + b + ") at first", x.memory(3, b), 0);
                T.due("own(3, " + b + ", 200)", x.own(3, b, 200), 0);
                T.due("memory(3, " + b + ")", x.memory(3, b), 200);
            }
            for (int b : new int[] {0, 1, 2, 3, 16}) {
                T.due("own(3, " + b + ", 200)", x.own(3, b, 200), BAD);
            }
        });
    }

    /** The clock bytes of the first device of a ring at a time. */
    private static void clockBytes(String text, int time, int low, int high) {
        PassingFrames x = at(text, time);
        T.row("clock bytes of " + text + " at " + time, new int[] {x.memory(0, 2), x.memory(0, 3)}, low, high);
    }

    private static PassingFrames at(String text, int time) {
        PassingFrames x = Check.ring(text);
        int left = time;
        while (left > 0) {
            int step = Math.min(left, 9999);
            x.later(step);
            left -= step;
        }
        return x;
    }

    private static void theClocks() {
        T.test("THE RING", "At time t the own clock of a device is start + t + floor(t * (rate - 4) / 100)", () -> {
            drift(0, 0, 0);
            drift(0, 1, -1);
            drift(0, 24, -1);
            drift(0, 25, -1);
            drift(0, 26, -2);
            drift(0, 50, -2);
            drift(0, 51, -3);
            drift(3, 1, -1);
            drift(3, 99, -1);
            drift(3, 100, -1);
            drift(3, 101, -2);
            drift(4, 1, 0);
            drift(4, 9999, 0);
            drift(5, 1, 0);
            drift(5, 99, 0);
            drift(5, 100, 1);
            drift(5, 101, 1);
            drift(5, 199, 1);
            drift(5, 200, 2);
            drift(8, 24, 0);
            drift(8, 25, 1);
            drift(8, 26, 1);
            drift(8, 49, 1);
            drift(8, 50, 2);
            drift(0, 9999, -400);
            drift(8, 9999, 399);
        });
        T.test("THE RING", "and its system clock is its own clock plus its offset.", () -> {
            PassingFrames x = Check.ring("d0110504;d0210004;d0319994;");
            T.due("offset 0", x.clock(2, 1), x.clock(2, 0));
            x.level();
            // the frame passes at 1, 4 and 7: 51, 51 + 3 for 4 and 51 + 6 for 1006
            T.row("offsets", new int[] {x.clock(0, 2), x.clock(1, 2), x.clock(2, 2)}, ZERO, ZERO + 50, ZERO - 949);
            T.due("a positive offset", x.clock(1, 1), x.clock(1, 0) + 50);
            T.due("a negative offset", x.clock(2, 1), x.clock(2, 0) - 949);
        });
    }

    /** How much the own clock of a device that began with 7 is beside the time. */
    private static void drift(int rate, int time, int want) {
        PassingFrames x = at("d011007" + rate + ";", time);
        T.due("own clock at " + time + " with rate " + rate, x.clock(0, 0) - ZERO - 7 - time, want);
    }

    private static void theSides() {
        T.test("THE RING", "(all devices if no wire is cut)", () -> {
            sides("1111");
            sides(Edges.cut(new PassingFrames(), 4), "1111");
        });
        T.test("THE RING", "(none if no wire is cut)", () -> T.due("count(4)", new PassingFrames().count(4), 0));
        T.test("THE RING", "The A side consists of all devices before the first cut wire", () -> {
            sides("2222", 0);
            sides("1222", 1);
            sides("1112", 3);
            sides("1111", 4);
        });
        T.test("THE RING", "the B side of all devices after the last cut wire", () -> {
            sides("1222", 1);
            sides("1022", 1, 2);
            sides("1002", 1, 3);
            sides("1000", 1, 4);
            sides("0002", 0, 3);
            sides("0000", 0, 4);
            sides("1110", 3, 4);
            sides("1002", 1, 2, 3);
            sides("0000", 0, 1, 2, 3, 4);
            sides("1002", 3, 2, 1);
        });
    }

    private static void sides(String want, int... wires) {
        sides(Edges.cut(new PassingFrames(), wires), want);
    }

    private static void sides(PassingFrames x, String want) {
        for (int d = 0; d < want.length(); d++) {
            T.due("side of device " + d + " of " + want, x.device(d, 5), want.charAt(d) - '0');
        }
        T.due("A side of " + want, x.count(3), (int) want.chars().filter(c -> c == '1').count());
        T.due("B side of " + want, x.count(4), (int) want.chars().filter(c -> c == '2').count());
    }

    private static void newObject() {
        T.test("1", "Creates the ring described above at time 0", () -> {
            PassingFrames x = new PassingFrames();
            int[][] devices = {{11, 3, 0, 5, 0, 1}, {22, 5, 20, 4, 0, 1}, {33, 4, 100, 3, 0, 1}, {7, 2, 50, 4, 0, 1}};
            for (int d = 0; d < 4; d++) {
                for (int what = 0; what <= 5; what++) {
                    T.due("device(" + d + ", " + what + ")", x.device(d, what), devices[d][what]);
                }
            }
            int[] counts = {4, 0, 0, 4, 0, 0, 0, 0, 0, 4, 3, 2, 30};
            for (int what = 0; what <= 12; what++) {
                T.due("count(" + what + ")", x.count(what), counts[what]);
            }
        });
        T.test("1", "the text is empty.", () -> {
            T.due("count(8)", new PassingFrames().count(8), 0);
            T.due("wipe()", new PassingFrames().wipe(), 0);
        });
        T.test("1", "Creates the ring", () -> {
            Edges.busy();
            T.alike("objects are apart", Look.told(new PassingFrames()), Look.told(Check.ring(Edges.FIRST_RING)));
        });
    }

    private static void device() {
        T.test("6", "d: a device", () -> {
            T.range("device of four", 0, 3, Edges::busy, (x, d) -> x.device(d, 0));
            T.range("device of one", 0, 0, () -> Edges.even(1), (x, d) -> x.device(d, 5));
            T.range("device of eight", 0, 7, () -> Edges.even(8), (x, d) -> x.device(d, 4));
        });
        T.test("6", "what: 0 number, 1 time of the wire before it, 2 start, 3 rate, 4 state, 5 its side", () ->
            T.range("device", 0, 5, Edges::busy, (x, what) -> x.device(3, what)));
        T.test("6", "BAD if there is no such device or what is not 0 to 5.", () -> {
            PassingFrames x = new PassingFrames();
            for (int what = -1; what <= 6; what++) {
                T.due("device(-1, " + what + ")", x.device(-1, what), BAD);
                T.due("device(4, " + what + ")", x.device(4, what), BAD);
            }
            for (int d = 0; d <= 3; d++) {
                T.due("device(" + d + ", -1)", x.device(d, -1), BAD);
                T.due("device(" + d + ", 6)", x.device(d, 6), BAD);
            }
        });
        T.test("6", "1 A side, 2 B side, 0 none", () -> {
            PassingFrames x = Edges.cut(new PassingFrames(), 1, 3);
            T.row("sides", new int[] {x.device(0, 5), x.device(1, 5), x.device(2, 5), x.device(3, 5)}, 1, 0, 0, 2);
        });
        T.test("6", "1 time of the wire before it", () -> {
            PassingFrames x = Check.ring("d0110000;d0290000;d0350000;e700;");
            T.row("wires", new int[] {x.device(0, 1), x.device(1, 1), x.device(2, 1)}, 1, 9, 5);
        });
    }

    private static void memory() {
        T.test("7", "d: a device", () -> {
            T.range("memory of four", 0, 3, Edges::busy, (x, d) -> x.memory(d, 4));
            T.range("memory of eight", 0, 7, () -> Edges.even(8), (x, d) -> x.memory(d, 0));
        });
        T.test("7", "b: the byte, 0 to 15", () -> T.range("memory", 0, 15, Edges::busy, (x, b) -> x.memory(0, b)));
        T.test("7", "BAD if there is no such device or b is out of range.", () -> {
            PassingFrames x = new PassingFrames();
            T.due("memory(-1, 0)", x.memory(-1, 0), BAD);
            T.due("memory(4, 0)", x.memory(4, 0), BAD);
            T.due("memory(0, -1)", x.memory(0, -1), BAD);
            T.due("memory(0, 16)", x.memory(0, 16), BAD);
            T.due("memory(4, 16)", x.memory(4, 16), BAD);
        });
        T.test("7", "Returns a byte of a device, at the present time.", () -> {
            PassingFrames x = Check.ring("d0110004;");
            x.later(255);
            T.row("at 255", new int[] {x.memory(0, 2), x.memory(0, 3)}, 255, 0);
            x.later(1);
            T.row("at 256", new int[] {x.memory(0, 2), x.memory(0, 3)}, 0, 1);
            x.gram(0, 1, 0, 2, 2);
            x.send();
            T.row("as the frame saw it", new int[] {x.home(0, 0), x.home(0, 1)}, 1, 1);
            T.row("when it is home", new int[] {x.memory(0, 2), x.memory(0, 3)}, 4, 1);
        });
    }

    private static void own() {
        T.test("8", "d: a device", () -> {
            T.range("own of four", 0, 3, Edges::busy, (x, d) -> x.own(d, 4, 99));
            T.range("own of one", 0, 0, () -> Edges.even(1), (x, d) -> x.own(d, 15, 99));
        });
        T.test("8", "b: the byte, 4 to 15", () -> T.range("own", 4, 15, Edges::busy, (x, b) -> x.own(0, b, 99)));
        T.test("8", "v: the new value, 0 to 255", () -> T.range("own", 0, 255, Edges::busy, (x, v) -> x.own(0, 4, v)));
        T.test("8", "Returns the previous value", () -> {
            PassingFrames x = new PassingFrames();
            T.due("own(0, 4, 255)", x.own(0, 4, 255), 0);
            T.due("own(0, 4, 255) again", x.own(0, 4, 255), 255);
            T.due("own(0, 4, 0)", x.own(0, 4, 0), 255);
            T.due("own(0, 4, 1)", x.own(0, 4, 1), 0);
            T.due("the byte beside it", x.own(0, 5, 1), 0);
            T.due("the device beside it", x.own(1, 4, 1), 0);
        });
        T.test("8", "BAD if there is no such device, or b or v is out of range.", () -> {
            T.refused("own(4, 3, 256)", BAD, Edges::busy, x -> x.own(4, 3, 256));
            T.refused("own(0, 0, 1)", BAD, Edges::busy, x -> x.own(0, 0, 1));
            T.refused("own(0, 3, 1)", BAD, Edges::busy, x -> x.own(0, 3, 1));
            T.refused("own(0, 4, 256)", BAD, Edges::busy, x -> x.own(0, 4, 256));
        });
        T.test("8", "The device itself writes one of its bytes.", () -> {
            PassingFrames x = Edges.cut(new PassingFrames(), 0, 4);
            T.due("on no side and in INIT", x.own(2, 15, 9), 0);
            T.due("memory(2, 15)", x.memory(2, 15), 9);
        });
    }

    private static void cut() {
        T.test("9", "w: the wire, 0 to the number of devices", () -> {
            T.range("cut of four", 0, 4, PassingFrames::new, (x, w) -> x.cut(w, 1));
            T.range("cut of one", 0, 1, () -> Edges.even(1), (x, w) -> x.cut(w, 1));
            T.range("cut of eight", 0, 8, () -> Edges.even(8), (x, w) -> x.cut(w, 1));
        });
        T.test("9", "is: 1 to cut it, 0 to repair"
                + " it", () -> T.range("cut", 0, 1, Edges::busy, (x, is) -> x.cut(1, is)));
        T.test("9", "Cuts or repairs a wire.", () -> {
            for (int w = 0; w <= 4; w++) {
                PassingFrames x = Edges.cut(new PassingFrames(), w);
                T.row("sides with wire " + w + " cut", new int[] {x.count(3), x.count(4)}, w, 4 - w);
                x.cut(w, 0);
                T.row("sides with wire " + w + " repaired", new int[] {x.count(3), x.count(4)}, 4, 0);
            }
        });
        T.test("9", "Returns how many wires are cut then", () -> {
            PassingFrames x = Edges.even(8);
            for (int w = 0; w <= 8; w++) {
                T.due("cut(" + w + ", 1)", x.cut(w, 1), w + 1);
            }
            for (int w = 0; w <= 8; w++) {
                T.due("cut(" + w + ", 0)", x.cut(w, 0), 8 - w);
            }
        });
        T.test("9", "BAD if an argument is out of range", () -> {
            T.refused("cut(-1, 1)", BAD, Edges::busy, x -> x.cut(-1, 1));
            T.refused("cut(5, 0)", BAD, Edges::busy, x -> x.cut(5, 0));
            T.refused("cut(3, 2), which is cut", BAD, Edges::busy, x -> x.cut(3, 2));
            T.refused("cut(1, -1), which is not cut", BAD, Edges::busy, x -> x.cut(1, -1));
        });
        T.test("9", "NO if it is so already.", () -> {
            T.refused("cut(3, 1) of a cut one", NO, Edges::busy, x -> x.cut(3, 1));
            T.refused("cut(2, 0) of the one before", NO, Edges::busy, x -> x.cut(2, 0));
            T.refused("cut(4, 0) of the one behind", NO, Edges::busy, x -> x.cut(4, 0));
            T.due("cut(3, 0)", Edges.busy().cut(3, 0), 0);
            T.due("cut(2, 1)", Edges.busy().cut(2, 1), 2);
        });
    }

    private static void lose() {
        T.test("10", "n: 0 to 9", () -> T.range("lose", 0, 9, Edges::busy, (x, n) -> x.lose(n)));
        T.test("10", "Determines that the next n frames", () -> {
            for (int n = 0; n <= 9; n++) {
                PassingFrames x = sending();
                x.lose(n);
                for (int i = 0; i < n; i++) {
                    T.due("lost send() " + i + " of " + n, x.send(), LOST);
                }
                T.due("send() behind them, of " + n, x.send(), 4);
                T.due("and one more, of " + n, x.send(), 4);
            }
        });
        T.test("10", "(in place of the number before)", () -> {
            PassingFrames x = sending();
            x.lose(9);
            x.lose(1);
            T.due("send()", x.send(), LOST);
            T.due("send() again", x.send(), 4);
            x.lose(5);
            x.lose(0);
            T.due("send() after lose(0)", x.send(), 4);
            x.lose(1);
            x.lose(1);
            T.due("count(7) is not 2", x.count(7), 1);
        });
        T.test("10", "Returns how many frames were still to be lost", () -> {
            PassingFrames x = sending();
            T.due("lose(9)", x.lose(9), 0);
            x.send();
            T.due("lose(0)", x.lose(0), 8);
            T.due("lose(1)", x.lose(1), 0);
            x.send();
            x.send();
            T.due("lose(2)", x.lose(2), 0);
        });
        T.test("10", "BAD if n is out of range.", () -> {
            T.refused("lose(-1)", BAD, Edges::busy, x -> x.lose(-1));
            T.refused("lose(10)", BAD, Edges::busy, x -> x.lose(10));
        });
    }

    /** The first ring with a frame that all devices read. */
    private static PassingFrames sending() {
        PassingFrames x = Edges.prepared();
        x.gram(0, 7, 0, 0, 1);
        return x;
    }

    private static void whatIsLost() {
        T.test("10", "frames of send(), fetch(), push() and again() are lost", () -> {
            PassingFrames x = sending();
            x.tell(1, 7);
            x.lose(4);
            T.due("push()", x.push(0, 5), LOST);
            T.due("fetch()", x.fetch(1), LOST);
            T.due("again()", x.again(0), LOST);
            T.due("count(7)", x.count(7), 1);
            T.due("send()", x.send(), LOST);
            T.due("again() then", x.again(0), 1);
            T.due("fetch() then", x.fetch(1), 7);
            T.due("push() then", x.push(0, 5), 2);
            T.due("send() then", x.send(), 4);
        });
        T.test("10", "the next n frames of send(), fetch(), push() and again()", () -> {
            PassingFrames x = Edges.prepared();
            x.lose(1);
            T.due("level()", x.level() >= 0 ? x.count(7) : BAD, 1);
            T.due("steer()", x.steer(9) >= 0 ? x.count(7) : BAD, 1);
            T.due("send() without a command", x.send(), NO);
            T.due("again() of nothing", x.again(0), NO);
            x.state(0, 0);
            T.due("fetch() in INIT", x.fetch(0), NO);
            T.due("push() in INIT", x.push(0, 1), NO);
            T.due("push() of a bad message", x.push(1, 0), BAD);
            T.due("count(7)", x.count(7), 1);
        });
    }

    private static void state() {
        T.test("11", "Changes the state of a device.", () -> {
            PassingFrames x = Edges.even(8);
            x.state(0, 1);
            x.state(7, 1);
            for (int d = 0; d < 8; d++) {
                T.due("state of " + d, x.device(d, 4), d == 0 || d == 7 ? 1 : 0);
                T.due("state byte of " + d, x.memory(d, 1), d == 0 || d == 7 ? 1 : 0);
            }
        });
        T.test("11", "d: a device", () -> T.range("state", 0, 3, PassingFrames::new, (x, d) -> x.state(d, 1)));
        T.test("11", "s: the new state, 0 to 3", () -> T.range("state", 0, 3, Edges::busy, (x, s) -> x.state(1, s)));
        T.test("11", "Returns the previous state", () -> {
            for (int from = 0; from <= 3; from++) {
                for (int to = 0; to <= 3; to++) {
                    PassingFrames x = in(from);
                    boolean may = to < from || to == from + 1;
                    T.due("state(0, " + to + ") from " + from, x.state(0, to), may ? from : NO);
                    T.due("state then", x.device(0, 4), may ? to : from);
                }
            }
        });
        T.test("11", "BAD if there is no such device or s is out of range", () -> {
            T.refused("state(-1, 1)", BAD, Edges::busy, x -> x.state(-1, 1));
            T.refused("state(4, 1)", BAD, Edges::busy, x -> x.state(4, 1));
            T.refused("state(0, -1)", BAD, Edges::busy, x -> x.state(0, -1));
            T.refused("state(0, 4) from 3", BAD, Edges::busy, x -> x.state(0, 4));
            T.due("on no side too", Edges.cut(Edges.busy(), 0, 4).state(1, 4), BAD);
        });
        T.test("11", "NO if the device is on no side", () -> {
            Edges.Make apart = () -> Edges.cut(Edges.prepared(), 1, 2);
            T.refused("state up", NO, apart, x -> x.state(1, 2));
            T.refused("state down", NO, apart, x -> x.state(1, 0));
            T.refused("the same state", NO, apart, x -> x.state(1, 1));
            T.due("the one before", apart.ring().state(0, 2), 1);
            T.due("the one behind", apart.ring().state(2, 2), 1);
        });
        T.test("11", "is in this state already", () -> {
            for (int s = 0; s <= 3; s++) {
                int same = s;
                T.refused("state(0, " + s + ")", NO, () -> in(same), x -> x.state(0, same));
            }
        });
        T.test("11", "or s is more than one above the present state.", () -> {
            T.refused("0 to 2", NO, () -> in(0), x -> x.state(0, 2));
            T.refused("0 to 3", NO, () -> in(0), x -> x.state(0, 3));
            T.refused("1 to 3", NO, () -> in(1), x -> x.state(0, 3));
            T.due("0 to 1", in(0).state(0, 1), 0);
            T.due("1 to 2", in(1).state(0, 2), 1);
            T.due("2 to 3", in(2).state(0, 3), 2);
            T.due("3 to 0", in(3).state(0, 0), 3);
        });
        T.test("11", "No time passes.", () -> {
            PassingFrames x = new PassingFrames();
            x.later(5);
            x.state(0, 1);
            x.state(0, 0);
            T.due("count(1)", x.count(1), 5);
        });
    }

    private static PassingFrames in(int state) {
        PassingFrames x = new PassingFrames();
        Check.enter(x, 0, state);
        return x;
    }

    private static void becomesInit() {
        T.test("11", "both of its boxes are empty", () -> {
            PassingFrames x = full(4);
            x.state(0, 0);
            T.row("sizes", new int[] {x.box(0, 0), x.box(0, 1)}, 0, 0);
            T.due("take()", x.take(0), NONE);
            x.state(0, 1);
            T.due("fetch()", x.fetch(0), NONE);
            T.due("tell()", x.tell(0, 1), 1);
            T.due("push()", x.push(0, 1), 1);
        });
        T.test("11", "it has no last message", () -> {
            PassingFrames x = full(1);
            x.lose(1);
            x.fetch(0);
            T.due("last message before", x.box(0, 6), 11);
            x.state(0, 0);
            T.due("last message", x.box(0, 6), NONE);
            x.state(0, 1);
            T.due("fetch()", x.fetch(0), NONE);
        });
        T.test("11", "all bits of both boxes (also those of the master) are as at first", () -> {
            PassingFrames x = full(1);
            x.fetch(0);
            T.row("bits before", bits(x), 1, 1, 0, 0);
            x.state(0, 0);
            T.row("bits", bits(x), 0, 0, 1, 1);
            x = full(2);
            x.lose(2);
            x.fetch(0);
            x.push(0, 9);
            T.row("bits before, with lost frames", bits(x), 1, 1, 1, 1);
            x.state(0, 0);
            T.row("bits then", bits(x), 0, 0, 1, 1);
        });
        T.test("11", "and nothing is pending for it.", () -> {
            PassingFrames x = full(1);
            x.lose(1);
            x.push(0, 9);
            T.due("pending before", x.box(0, 7), 9);
            x.state(0, 0);
            T.due("pending", x.box(0, 7), NONE);
            x.state(0, 1);
            T.due("again()", x.again(0), NO);
            T.due("push()", x.push(0, 9), 1);
        });
        T.test("11", "When it becomes INIT", () -> {
            for (int from = 1; from <= 3; from++) {
                PassingFrames x = full(2);
                Check.enter(x, 0, from);
                for (int to = from - 1; to >= 1; to--) {
                    x.state(0, to);
                }
                T.row("messages stay in the other states", new int[] {x.box(0, 0), x.box(0, 1)}, 2, 2);
                Check.enter(x, 0, from);
                x.state(0, 0);
                T.row("from " + from, new int[] {x.box(0, 0), x.box(0, 1)}, 0, 0);
            }
            PassingFrames x = full(2);
            x.tell(1, 5);
            x.own(0, 4, 3);
            x.state(0, 0);
            T.due("the box of another device stays", x.box(1, 0), 1);
            T.due("the byte stays", x.memory(0, 4), 3);
        });
    }

    /** Device 0 in PREP with so many messages, from 11 on, in both of its boxes. */
    private static PassingFrames full(int messages) {
        PassingFrames x = Edges.prepared();
        for (int i = 0; i < messages; i++) {
            x.tell(0, 11 + i);
            x.push(0, 21 + i);
        }
        return x;
    }

    private static int[] bits(PassingFrames x) {
        return new int[] {x.box(0, 2), x.box(0, 3), x.box(0, 4), x.box(0, 5)};
    }
}
