/** The sentences of FRAMES that name a boundary, but for those about the map: the way, the commands, coming home. */
public final class EdgesOfFramesTest {
    private static final int NO = -2, NONE = -4, LOST = -5;
    private static final String UNEVEN = "d0120004;d0230004;d0340004;d0480004;e576;";
    private static final Edges T = new Edges("EdgesOfFramesTest");

    public static void main(String[] args) {
        ways();
        timesOnA();
        timesOnB();
        trips();
        tripTakesTime();
        datagram();
        commands();
        positions();
        numbersAndAll();
        order();
        read();
        write();
        both();
        join();
        joinBytes();
        lost();
        alike();
        remembered();
        forgotten();
        shortOnes();
        T.finish();
    }

    /** Sets datagram 0 and sends it. */
    private static int send(PassingFrames x, int command, int address, int offset, int n) {
        x.gram(0, command, address, offset, n);
        return x.send();
    }

    private static void ways() {
        T.test("FRAMES", "A frame leaves the master at A and passes the devices of the A side in ascending"
                + " order.", () -> {
            arrivals(1, 0, 0);
            arrivals(2, 0, 0);
            arrivals(8, 0, 0);
        });
        T.test("FRAMES", "If a wire is cut, an identical frame leaves at B at the same time", () -> {
            for (int w = 0; w <= 4; w++) {
                PassingFrames x = Edges.cut(Edges.even(4), w);
                x.put(0, 0, 7);
                x.put(0, 7, 9);
                T.due("WRITE to all with wire " + w + " cut", send(x, 8, 0, 8, 8), 4);
                for (int d = 0; d < 4; d++) {
                    T.due("first byte at " + d, x.memory(d, 8), 7);
                    T.due("last byte at " + d, x.memory(d, 15), 9);
                }
            }
        });
        T.test("FRAMES", "it goes to the first device of the B side without being edited on the way,", () -> {
            for (int w = 0; w <= 7; w++) {
                arrivals(8, w, w);
            }
        });
        T.test("FRAMES", "and then passes all devices of the B side in ascending order.", () -> {
            arrivals(2, 0, 0);
            arrivals(2, 1, 1);
            arrivals(8, 1, 4);
            arrivals(8, 0, 7);
        });
    }

    /** Wires from first to last are cut, none if both are 0; each device adds a bit to what comes to it. */
    private static void arrivals(int devices, int first, int last) {
        PassingFrames x = Edges.even(devices);
        if (last > 0) {
            Edges.cut(x, first, last);
        }
        for (int d = 0; d < devices; d++) {
            x.own(d, 5, 1 << d);
        }
        send(x, 9, 0, 5, 1);
        for (int d = 0; d < devices; d++) {
            boolean onNone = d >= first && d < last;
            int begin = d >= last ? last : 0;
            int came = (1 << d) - (1 << begin);
            String call = "what came to " + d + " of " + devices + " with wires " + first + " and " + last + " cut";
            T.due(call, x.memory(d, 5), onNone ? 1 << d : came);
        }
    }

    /** The times at which the frame passed devices, as their even clocks tell them in a READ of each of them. */
    private static void passed(PassingFrames x, int[] devices, int... times) {
        for (int i = 0; i < devices.length; i++) {
            x.gram(i, 4, x.device(devices[i], 0), 2, 2);
        }
        x.send();
        for (int i = 0; i < devices.length; i++) {
            T.due("time at device " + devices[i], x.home(i, 0) + 256 * x.home(i, 1), times[i]);
        }
    }

    private static void timesOnA() {
        T.test("FRAMES", "on the A side, device i at the present time plus the times of the wires 0 to i plus i *"
                + " pass.", () -> {
            passed(Edges.even(1), new int[] {0}, 1);
            passed(Check.ring("d0190004;e999;"), new int[] {0}, 9);
            passed(Check.ring(UNEVEN), new int[] {0, 1, 2, 3}, 2, 12, 23, 38);
            passed(Edges.cut(Check.ring(UNEVEN), 4), new int[] {0, 1, 2, 3}, 2, 12, 23, 38);
            passed(Edges.cut(Check.ring(UNEVEN), 1), new int[] {0}, 2);
            passed(Edges.even(8), new int[] {0, 1, 6, 7}, 1, 4, 19, 22);
            passed(Check.ring("d0110004;d0210004;e109;"), new int[] {0, 1}, 1, 2);
        });
        T.test("FRAMES", "A device edits the frame at the time at which it passes", () -> {
            PassingFrames x = Check.ring(UNEVEN);
            x.later(243);
            passed(x, new int[] {0, 1, 2, 3}, 245, 255, 266, 281);
            x.later(9999);
            passed(x, new int[] {0, 3}, 10294, 10330);
        });
    }

    private static void timesOnB() {
        T.test("FRAMES", "device f at the present time plus the times of all wires from f + 1 to the last one plus turn"
                + " for each other device of the B side", () -> {
            passed(Edges.cut(Check.ring(UNEVEN), 0), new int[] {0}, 20 + 3 * 6);
            passed(Edges.cut(Check.ring(UNEVEN), 1), new int[] {1}, 17 + 2 * 6);
            passed(Edges.cut(Check.ring(UNEVEN), 2), new int[] {2}, 13 + 6);
            passed(Edges.cut(Check.ring(UNEVEN), 3), new int[] {3}, 5);
            passed(Edges.cut(Check.ring(UNEVEN), 0, 3), new int[] {3}, 5);
            passed(Edges.cut(Edges.even(1), 0), new int[] {0}, 1);
            passed(Edges.cut(Edges.even(8), 0), new int[] {0}, 8 + 7);
            passed(Edges.cut(Check.ring("d0110004;d0210004;e190;"), 0), new int[] {0}, 2);
        });
        T.test("FRAMES", "each further device i after that of device i - 1 by pass plus the time of wire i.", () -> {
            passed(Edges.cut(Check.ring(UNEVEN), 0), new int[] {0, 1, 2, 3}, 38, 48, 59, 74);
            passed(Edges.cut(Check.ring(UNEVEN), 1), new int[] {1, 2, 3}, 29, 40, 55);
            passed(Edges.cut(Check.ring(UNEVEN), 2), new int[] {2, 3}, 19, 34);
            passed(Edges.cut(Edges.even(8), 0), new int[] {0, 1, 6, 7}, 15, 18, 33, 36);
            passed(Edges.cut(Check.ring("d0110004;d0210004;e109;"), 0), new int[] {0, 1}, 11, 12);
        });
    }

    private static void trip(String text, int want, int... wires) {
        StringBuilder call = new StringBuilder("trip of " + text + " with these wires cut:");
        for (int w : wires) {
            call.append(' ').append(w);
        }
        T.due(call.toString(), Edges.cut(Check.ring(text), wires).count(12), want);
    }

    private static void trips() {
        T.test("FRAMES", "The trip of a frame is, if no wire is cut, the sum of the times of all wires plus pass for"
                + " each device.", () -> {
            trip(UNEVEN, 22 + 28);
            trip("d0110004;e100;", 2);
            trip("d0190004;e999;", 18 + 9);
            trip(Edges.EIGHT, 9 + 16);
            trip(Edges.EIGHT + "e999;", 8 + 9 + 72);
            PassingFrames x = Edges.cut(Check.ring(UNEVEN), 2);
            x.cut(2, 0);
            T.due("trip after a wire was cut and repaired", x.count(12), 50);
        });
        T.test("FRAMES", "Otherwise it is the greater one of the values of both sides", () -> {
            trip(UNEVEN, 67, 1);
            trip(UNEVEN, 46, 2);
            trip(UNEVEN, 51, 3);
            trip(UNEVEN, 17, 1, 3);
            trip("d0110004;d0210004;e121;", 4, 1);
            trip("d0120004;d0210004;e121;", 6, 1);
            trip("d0110004;d0210004;e221;", 6, 1);
        });
        T.test("FRAMES", "where the value of an empty side is 0", () -> {
            trip(UNEVEN, 86, 0);
            trip(UNEVEN, 80, 4);
            trip(UNEVEN, 0, 0, 4);
            trip(UNEVEN, 0, 0, 1, 2, 3, 4);
            trip(UNEVEN, 11, 1, 4);
            trip(UNEVEN, 17, 0, 3);
            trip("d0110004;e999;", 0, 0, 1);
        });
        T.test("FRAMES", "twice the sum of the times of the wires between its end of the master and its farthest"
                + " device, plus m * pass, plus (m - 1) * turn.", () -> {
            trip("d0120004;e376;", 2 * 2 + 7, 1);
            trip("d0120004;e376;", 2 * 3 + 7, 0);
            trip("d0120004;d0230004;e476;", 2 * 5 + 2 * 7 + 6, 2);
            trip("d0120004;d0230004;e476;", 2 * 7 + 2 * 7 + 6, 0);
            trip(Edges.EIGHT, 2 * 8 + 8 * 2 + 7, 8);
            trip(Edges.EIGHT, 2 * 8 + 8 * 2 + 7, 0);
            trip("d0120004;d0230004;e409;", 2 * 5 + 9, 2);
            trip("d0120004;d0230004;e490;", 2 * 5 + 18, 2);
        });
    }

    private static void tripTakesTime() {
        T.test("FRAMES", "After each frame, also a lost one, the time increases by the trip.", () -> {
            timeOfFrames();
            timeOfFrames(2);
            timeOfFrames(0, 4);
        });
    }

    private static void timeOfFrames(int... wires) {
        PassingFrames x = Edges.cut(Check.ring(UNEVEN), wires);
        int trip = x.count(12);
        x.gram(0, 7, 0, 0, 1);
        x.state(3, 1);
        x.send();
        T.due("send()", x.count(1), trip);
        x.lose(3);
        x.send();
        T.due("lost send()", x.count(1), 2 * trip);
        boolean talks = x.fetch(3) == LOST;
        T.due("lost fetch()", x.count(1), talks ? 3 * trip : 2 * trip);
        x.push(3, 1);
        T.due("lost push()", x.count(1), talks ? 4 * trip : 2 * trip);
        x.again(3);
        T.due("again()", x.count(1), talks ? 5 * trip : 2 * trip);
        x.clear(0);
        T.due("send() of nothing", x.send(), NO);
        T.due("takes no time", x.count(1), talks ? 5 * trip : 2 * trip);
    }

    private static void datagram() {
        T.test("FRAMES", "A frame has four datagrams, 0 to 3.", () -> {
            PassingFrames x = Edges.even(4);
            for (int i = 0; i <= 3; i++) {
                x.gram(i, 1, i, 0, 1);
            }
            T.due("send()", x.send(), 4);
            for (int i = 0; i <= 3; i++) {
                T.due("home(" + i + ", 0)", x.home(i, 0), i + 1);
            }
            T.due("home(4, 0)", x.home(4, 0), -1);
            T.due("home(-1, 0)", x.home(-1, 0), -1);
        });
        T.test("FRAMES", "A datagram has a command (0 for none, at first)", () -> {
            for (int i = 0; i <= 3; i++) {
                T.due("gram() at first", new PassingFrames().gram(i, 7, 0, 0, 1), 0);
                T.due("clear() at first", new PassingFrames().clear(i), NO);
            }
        });
        T.test("FRAMES", "8 bytes that can be set (0 at first", () -> {
            PassingFrames x = new PassingFrames();
            for (int i = 0; i <= 3; i++) {
                for (int k = 0; k <= 7; k++) {
                    T.due("put(" + i + ", " + k + ", 9) at first", x.put(i, k, 9), 0);
                }
                T.due("put(" + i + ", 8, 9)", x.put(i, 8, 9), -1);
            }
        });
        T.test("FRAMES", "a length n (1 to 8)", () -> {
            PassingFrames x = Edges.even(1);
            T.due("n 0", x.gram(0, 7, 0, 0, 0), -1);
            T.due("n 1", x.gram(0, 7, 0, 0, 1), 0);
            T.due("n 8", x.gram(0, 7, 0, 0, 8), 7);
            T.due("n 9", x.gram(0, 7, 0, 0, 9), -1);
        });
        T.test("FRAMES", "the first n are sent)", () -> {
            for (int n = 1; n <= 8; n++) {
                PassingFrames x = Edges.even(1);
                for (int k = 0; k <= 7; k++) {
                    x.put(0, k, 50 + k);
                }
                send(x, 8, 0, 6, n);
                T.due("the last one of " + n + " is written", x.memory(0, 5 + n), 49 + n);
                T.due("the last one of " + n + " comes home", x.home(0, n - 1), 49 + n);
                T.due("none behind it is written", n == 8 ? 0 : x.memory(0, 6 + n), 0);
                T.due("none behind it comes home", n == 8 ? NONE : x.home(0, n), NONE);
            }
        });
        T.test("FRAMES", "and a counter, which is 0 when the frame leaves.", () -> {
            PassingFrames x = Edges.even(4);
            T.due("first send()", send(x, 7, 0, 0, 1), 4);
            T.due("second send()", x.send(), 4);
            x.lose(1);
            x.send();
            T.due("send() after a lost one", x.send(), 4);
            Edges.cut(x, 2);
            T.due("send() of two frames", x.send(), 4);
            T.due("counter", x.home(0, -1), 4);
            Edges.cut(x, 0, 4);
            T.due("send() to nobody", x.send(), 0);
        });
    }

    private static void commands() {
        T.test("FRAMES", "Commands are 1 READ, 2 WRITE, 3 BOTH for the device at a position", () -> {
            edited(1, 4, 2, true, false);
            edited(2, 4, 2, false, true);
            edited(3, 4, 2, true, true);
            T.due("command 0", new PassingFrames().gram(0, 0, 0, 4, 2), -1);
        });
        T.test("FRAMES", "4 READ, 5 WRITE, 6 BOTH for the device with a number", () -> {
            edited(4, 4, 2, true, false);
            edited(5, 4, 2, false, true);
            edited(6, 4, 2, true, true);
        });
        T.test("FRAMES", "7 READ, 8 WRITE, 9 BOTH for all devices", () -> {
            edited(7, 4, 2, true, false);
            edited(8, 4, 2, false, true);
            edited(9, 4, 2, true, true);
        });
    }

    private static void positions() {
        T.test("FRAMES", "the address, 0 to 7, is how many devices after the first one that edits this frame it"
                + " is", () -> {
            PassingFrames x = Edges.even(8);
            for (int address = 0; address <= 7; address++) {
                T.due("position " + address + " of 8", send(x, 1, address, 0, 1), 1);
                T.due("its number", x.home(0, 0), address + 1);
            }
            T.due("position 8", x.gram(0, 1, 8, 0, 1), -1);
            T.due("position -1", x.gram(0, 1, -1, 0, 1), -1);
            x = Edges.even(4);
            T.due("position 3 of 4", send(x, 2, 3, 4, 1), 1);
            T.due("position 4 of 4", send(x, 2, 4, 4, 1), 0);
            T.due("position 7 of 4", send(x, 2, 7, 4, 1), 0);
        });
        T.test("FRAMES", "after the first one that edits this frame", () -> {
            // devices 0 to 2 are on the A side, 4 to 7 on the B side
            int[] counters = {2, 2, 2, 1, 0, 0, 0, 0};
            int[] last = {5, 6, 7, 8, 0, 0, 0, 0};
            for (int address = 0; address <= 7; address++) {
                PassingFrames x = Edges.cut(Edges.even(8), 3, 4);
                x.put(0, 0, 77);
                T.due("position " + address, send(x, 2, address, 4, 1), counters[address]);
                for (int d = 0; d < 8; d++) {
                    boolean meant = d < 3 && d == address || d + 1 == last[address];
                    T.due("written at device " + d + " by position " + address, x.memory(d, 4), meant ? 77 : 0);
                }
            }
            PassingFrames x = Edges.cut(Edges.even(8), 0);
            T.due("position 7 of the B side", send(x, 1, 7, 0, 1), 1);
            T.due("its number", x.home(0, 0), 8);
        });
    }

    private static void numbersAndAll() {
        T.test("FRAMES", "the address, 1 to 99", () -> {
            String ring = "d0110004;d9910004;d5010004;";
            T.due("number 0", Check.ring(ring).gram(0, 4, 0, 0, 1), -1);
            T.due("number 1", send(Check.ring(ring), 4, 1, 0, 1), 1);
            T.due("number 2", send(Check.ring(ring), 4, 2, 0, 1), 0);
            T.due("number 49", send(Check.ring(ring), 5, 49, 4, 1), 0);
            T.due("number 50", send(Check.ring(ring), 5, 50, 4, 1), 1);
            T.due("number 98", send(Check.ring(ring), 6, 98, 4, 1), 0);
            T.due("number 99", send(Check.ring(ring), 6, 99, 4, 1), 3);
            T.due("number 100", Check.ring(ring).gram(0, 4, 100, 0, 1), -1);
            T.due("number 50 on the B side", send(Edges.cut(Check.ring(ring), 2), 4, 50, 0, 1), 1);
            T.due("number 50 on no side", send(Edges.cut(Check.ring(ring), 2, 3), 4, 50, 0, 1), 0);
        });
        T.test("FRAMES", "7 READ, 8 WRITE, 9 BOTH for all devices (address 0)", () -> {
            for (int n = 1; n <= 8; n++) {
                T.due("READ of " + n, send(Edges.even(n), 7, 0, 4, 1), n);
                T.due("WRITE of " + n, send(Edges.even(n), 8, 0, 4, 1), n);
                T.due("BOTH of " + n, send(Edges.even(n), 9, 0, 4, 1), 3 * n);
            }
            T.due("address 1", new PassingFrames().gram(0, 7, 1, 4, 1), -1);
            T.due("address -1", new PassingFrames().gram(0, 7, -1, 4, 1), -1);
        });
        T.test("FRAMES", "Commands 1 to 9 act on each device that edits the frame and is meant.", () -> {
            for (int n = 0; n <= 4; n++) {
                PassingFrames x = Edges.cut(Edges.even(4), n, 4);
                x.put(0, 0, 9);
                T.due("with an A side of " + n + " and no B side", send(x, 8, 0, 4, 1), n);
                for (int d = 0; d < 4; d++) {
                    T.due("written at " + d, x.memory(d, 4), d < n ? 9 : 0);
                }
            }
            for (int state = 0; state <= 3; state++) {
                PassingFrames x = Edges.even(1);
                Check.enter(x, 0, state);
                T.due("in state " + state, send(x, 9, 0, 4, 1), 3);
            }
        });
    }

    private static void order() {
        T.test("FRAMES", "A device edits the datagrams of a frame one after the other, in the order of their"
                + " numbers.", () -> {
            for (int i = 0; i < 3; i++) {
                PassingFrames x = Edges.even(1);
                x.own(0, 4, 5);
                x.put(i, 0, 6);
                x.gram(i, 8, 0, 4, 1);
                x.gram(i + 1, 7, 0, 4, 1);
                x.send();
                T.due("READ by " + (i + 1) + " after WRITE by " + i, x.home(i + 1, 0), 6);
                x = Edges.even(1);
                x.own(0, 4, 5);
                x.put(i + 1, 0, 6);
                x.gram(i, 7, 0, 4, 1);
                x.gram(i + 1, 8, 0, 4, 1);
                x.send();
                T.due("READ by " + i + " before WRITE by " + (i + 1), x.home(i, 0), 5);
            }
        });
    }

    /** A ring of one device whose bytes 4 to 15 are 104 to 115, and a datagram with the bytes 10 to 17. */
    private static PassingFrames single() {
        PassingFrames x = Edges.even(1);
        for (int b = 4; b <= 15; b++) {
            x.own(0, b, 100 + b);
        }
        for (int k = 0; k < 8; k++) {
            x.put(0, k, 10 + k);
        }
        return x;
    }

    /** The byte of the device as single() sets it; its clock bytes are those at time 1. */
    private static int ofDevice(int b) {
        return b == 0 ? 1 : b == 1 ? 0 : b == 2 ? 1 : b == 3 ? 0 : 100 + b;
    }

    /** Whether a command reads and writes at an offset, each with its share of the counter. */
    private static void edited(int command, int offset, int n, boolean reads, boolean writes) {
        PassingFrames x = single();
        int address = command > 3 && command < 7 ? 1 : 0;
        boolean onlyWrites = command % 3 == 2;
        String call = "command " + command + " with offset " + offset + " and n " + n;
        T.due(call, send(x, command, address, offset, n), (reads ? 1 : 0) + (writes ? onlyWrites ? 1 : 2 : 0));
        for (int k = 0; k < n; k++) {
            int combined = command == 7 || command == 9 ? 10 + k : 0;
            T.due(call + ": byte " + k, x.home(0, k), reads ? combined | ofDevice(offset + k) : 10 + k);
        }
        for (int b = 4; b <= 15; b++) {
            boolean written = writes && b >= offset && b < offset + n;
            T.due(call + ": byte " + b + " of the device", x.memory(0, b), written ? 10 + b - offset : 100 + b);
        }
    }

    private static void read() {
        T.test("FRAMES", "READ: if offset + n is at most 16", () -> {
            for (int command : new int[] {1, 4, 7}) {
                int[][] may = {{0, 1}, {0, 8}, {7, 8}, {8, 7}, {8, 8}, {9, 7}, {14, 1}, {14, 2}, {15, 1}};
                int[][] mayNot = {{9, 8}, {10, 7}, {14, 3}, {15, 2}, {15, 8}};
                for (int[] m : may) {
                    edited(command, m[0], m[1], true, false);
                }
                for (int[] m : mayNot) {
                    edited(command, m[0], m[1], false, false);
                }
            }
        });
        T.test("FRAMES", "the bytes of the device from offset on replace those of the datagram", () -> {
            for (int command : new int[] {1, 3, 4, 6}) {
                PassingFrames x = Edges.even(1);
                x.put(0, 0, 255);
                send(x, command, command < 4 ? 0 : 1, 15, 1);
                T.due("0 replaces 255 by command " + command, x.home(0, 0), 0);
            }
        });
        T.test("FRAMES", "(with 7 and 9 they are combined with those of the datagram by bitwise OR)", () -> {
            for (int command : new int[] {7, 9}) {
                combined(command, 255, 0, 255);
                combined(command, 0, 255, 255);
                combined(command, 0, 0, 0);
                combined(command, 0xAA, 0x0F, 0xAF);
                combined(command, 1, 1, 1);
            }
        });
    }

    private static void combined(int command, int sent, int own, int want) {
        PassingFrames x = Edges.even(1);
        x.put(0, 0, sent);
        x.own(0, 15, own);
        send(x, command, 0, 15, 1);
        T.due(sent + " with " + own + " by command " + command, x.home(0, 0), want);
    }

    private static void write() {
        T.test("FRAMES", "WRITE: if offset is at least 4", () -> {
            for (int command : new int[] {2, 5, 8}) {
                edited(command, 3, 1, false, false);
                edited(command, 4, 1, false, true);
                edited(command, 5, 1, false, true);
                edited(command, 0, 4, false, false);
                edited(command, 0, 8, false, false);
                edited(command, 3, 8, false, false);
                edited(command, 4, 8, false, true);
            }
        });
        T.test("FRAMES", "and offset + n is at most 16, the bytes of the datagram replace those of the device", () -> {
            for (int command : new int[] {2, 5, 8}) {
                edited(command, 7, 8, false, true);
                edited(command, 8, 8, false, true);
                edited(command, 9, 8, false, false);
                edited(command, 9, 7, false, true);
                edited(command, 14, 1, false, true);
                edited(command, 15, 1, false, true);
                edited(command, 15, 2, false, false);
            }
        });
    }

    private static void both() {
        T.test("FRAMES", "BOTH: the device is read, if it can be, as by READ, and the counter increases by 1", () -> {
            for (int command : new int[] {3, 6, 9}) {
                edited(command, 0, 1, true, false);
                edited(command, 0, 8, true, false);
                edited(command, 3, 1, true, false);
                edited(command, 3, 8, true, false);
                edited(command, 9, 8, false, false);
                edited(command, 15, 2, false, false);
            }
        });
        T.test("FRAMES", "and it is written, if it can be,", () -> {
            for (int command : new int[] {3, 6, 9}) {
                edited(command, 4, 1, true, true);
                edited(command, 4, 8, true, true);
                edited(command, 8, 8, true, true);
                edited(command, 15, 1, true, true);
            }
        });
        T.test("FRAMES", "with the bytes of the datagram as they came to it, and the counter increases by 2 (what is"
                + " read is what was there before).", () -> {
            PassingFrames x = Edges.even(3);
            x.own(0, 4, 1);
            x.own(1, 4, 2);
            x.own(2, 4, 4);
            x.put(0, 0, 64);
            T.due("send()", send(x, 9, 0, 4, 1), 9);
            T.row("written", new int[] {x.memory(0, 4), x.memory(1, 4), x.memory(2, 4)}, 64, 65, 67);
            T.due("read", x.home(0, 0), 71);
        });
    }

    private static void join() {
        T.test("FRAMES", "A frame comes home as it was edited.", () -> {
            PassingFrames x = Edges.even(2);
            x.put(0, 0, 8);
            send(x, 8, 0, 4, 1);
            T.due("a byte that was written", x.home(0, 0), 8);
            send(x, 4, 50, 4, 1);
            T.due("a byte that nobody edited", x.home(0, 0), 8);
            send(x, 4, 2, 0, 1);
            T.due("a byte that was read", x.home(0, 0), 2);
        });
        T.test("FRAMES", "the counters are added", () -> {
            for (int command = 7; command <= 9; command++) {
                for (int w = 0; w <= 4; w++) {
                    PassingFrames x = Edges.cut(Edges.even(4), w);
                    T.due("command " + command + " with wire " + w + " cut", send(x, command, 0, 4, 1),
                            command == 9 ? 12 : 4);
                }
            }
            T.due("3 and 0", send(Edges.cut(Edges.even(4), 3, 4), 7, 0, 4, 1), 3);
            T.due("0 and 1", send(Edges.cut(Edges.even(4), 0, 3), 7, 0, 4, 1), 1);
            T.due("0 and 0", send(Edges.cut(Edges.even(4), 0, 4), 7, 0, 4, 1), 0);
        });
    }

    /** Byte 4 of the first device is joined with that of the second one, on the other side. */
    private static void joined(int command, int sent, int fromA, int fromB, int want) {
        PassingFrames x = Edges.cut(Edges.even(2), 1);
        x.own(0, 4, fromA);
        x.own(1, 4, fromB);
        x.put(0, 0, sent);
        send(x, command, 0, 4, 1);
        String call = "command " + command + " sent with " + sent + ", " + fromA + " on A and " + fromB + " on B";
        T.due(call, x.home(0, 0), want);
    }

    private static void joinBytes() {
        T.test("FRAMES", "with the commands 7 and 9 the bytes are combined by bitwise OR", () -> {
            for (int command : new int[] {7, 9}) {
                joined(command, 0, 0, 0, 0);
                joined(command, 0, 1, 2, 3);
                joined(command, 4, 1, 2, 7);
                joined(command, 255, 0, 0, 255);
                joined(command, 0, 255, 0, 255);
                joined(command, 0, 0, 255, 255);
            }
        });
        T.test("FRAMES", "otherwise a byte is that of the A frame if it differs from the byte that was sent, else that"
                + " of the B frame.", () -> {
            for (int command : new int[] {1, 3}) {
                joined(command, 5, 6, 7, 6);
                joined(command, 5, 5, 7, 7);
                joined(command, 5, 6, 5, 6);
                joined(command, 5, 5, 5, 5);
                joined(command, 5, 4, 7, 4);
                joined(command, 5, 0, 7, 0);
                joined(command, 0, 0, 255, 255);
                joined(command, 255, 0, 255, 0);
                joined(command, 255, 255, 0, 0);
            }
            joined(2, 5, 6, 7, 5);
            joined(8, 5, 6, 7, 5);
        });
        T.test("FRAMES", "If a wire is cut, the frames from A and B are joined", () -> {
            PassingFrames x = Edges.cut(Edges.even(2), 2);
            x.put(0, 0, 9);
            T.due("with an empty B side", send(x, 4, 2, 0, 1), 1);
            T.due("its byte", x.home(0, 0), 2);
            x = Edges.cut(Edges.even(2), 0);
            x.put(0, 0, 9);
            T.due("with an empty A side", send(x, 4, 2, 0, 1), 1);
            T.due("its byte then", x.home(0, 0), 2);
            x = Edges.cut(Edges.even(2), 0, 2);
            x.put(0, 0, 9);
            T.due("with two empty sides", send(x, 7, 0, 0, 1), 0);
            T.due("its byte as it was sent", x.home(0, 0), 9);
        });
    }

    private static void lost() {
        T.test("FRAMES", "When a frame is lost, the devices have edited it all the same,", () -> {
            PassingFrames x = Edges.cut(Edges.even(4), 2);
            x.lose(1);
            x.put(0, 0, 9);
            T.due("send()", send(x, 8, 0, 4, 1), LOST);
            for (int d = 0; d < 4; d++) {
                T.due("memory(" + d + ", 4)", x.memory(d, 4), 9);
            }
        });
        T.test("FRAMES", "but nothing comes home.", () -> {
            PassingFrames x = Edges.even(4);
            x.lose(1);
            T.due("send()", send(x, 7, 0, 0, 1), LOST);
            T.row("home and expected", new int[] {x.home(0, -1), x.home(0, 0), x.expected(0)}, NONE, NONE, NONE);
            T.row("short and remembered", new int[] {x.count(5), x.count(6)}, 0, 0);
            T.due("send() that comes home", x.send(), 4);
            Edges.cut(x, 0, 4);
            x.put(0, 0, 64);
            x.lose(1);
            T.due("send() with less", x.send(), LOST);
            T.row("home and expected as before", new int[] {x.home(0, -1), x.home(0, 0), x.expected(0)}, 4, 7, 4);
            T.row("short and remembered as before", new int[] {x.count(5), x.count(6)}, 0, 1);
        });
    }

    private static void alike() {
        T.test("FRAMES", "Two datagrams are alike if command, address, offset and n are equal.", () -> {
            unlike(5, 50, 7, 4, new int[][] {{4, 50, 7, 4}, {6, 50, 7, 4}, {5, 49, 7, 4}, {5, 51, 7, 4}, {5, 50, 6, 4},
                {5, 50, 8, 4}, {5, 50, 7, 3}, {5, 50, 7, 5}});
            unlike(1, 7, 15, 8, new int[][] {{1, 6, 15, 8}, {1, 7, 14, 8}, {1, 7, 15, 7}, {2, 7, 15, 8}, {2, 0, 0, 1}});
            unlike(4, 99, 15, 8, new int[][] {{5, 99, 15, 8}, {5, 1, 0, 1}, {4, 98, 15, 8}, {4, 99, 14, 8}});
            unlike(9, 0, 15, 8, new int[][] {{8, 0, 15, 8}, {10, 0, 0, 1}, {9, 0, 0, 8}, {9, 0, 15, 1}});
            unlike(10, 31, 0, 1, new int[][] {{11, 31, 0, 1}, {10, 30, 0, 1}, {10, 30, 0, 2}, {11, 0, 0, 1}});
            unlike(6, 99, 15, 8, new int[][] {{7, 0, 15, 8}, {7, 0, 0, 8}, {7, 0, 0, 1}, {5, 99, 15, 8}});
            unlike(3, 0, 0, 1, new int[][] {{2, 7, 0, 1}, {2, 7, 15, 8}, {4, 1, 0, 1}, {3, 1, 0, 1}, {3, 0, 1, 1}});
        });
        T.test("FRAMES", "are alike if command, address, offset and n are equal.", () -> {
            // one of them is greater by 1 and another less by 1
            unlike(5, 50, 7, 4, new int[][] {{4, 51, 7, 4}, {6, 49, 7, 4}, {4, 50, 8, 4}, {6, 50, 6, 4}, {4, 50, 7, 5},
                {6, 50, 7, 3}, {5, 49, 8, 4}, {5, 51, 6, 4}, {5, 49, 7, 5}, {5, 51, 7, 3}, {5, 50, 6, 5},
                {5, 50, 8, 3}});
        });
    }

    /** When the first one has come home, it is remembered and the others are not. */
    private static void unlike(int command, int address, int offset, int n, int[][] others) {
        PassingFrames x = Edges.even(4);
        send(x, command, address, offset, n);
        for (int[] o : others) {
            x.gram(1, o[0], o[1], o[2], o[3]);
            T.due("expected of " + o[0] + ", " + o[1] + ", " + o[2] + ", " + o[3], x.expected(1), NONE);
        }
        x.gram(1, command, address, offset, n);
        T.due("expected of one alike", x.expected(1), x.home(0, -1));
        x.put(1, 0, 99);
        T.due("its bytes do not matter", x.expected(1), x.home(0, -1));
    }

    /** Lets so many of four devices edit the frame, by cutting the wire behind them and the last one. */
    private static int sendTo(PassingFrames x, int devices) {
        for (int w = 0; w <= 4; w++) {
            x.cut(w, w == devices || w == 4 ? 1 : 0);
        }
        return x.send();
    }

    private static void remembered() {
        T.test("FRAMES", "the master remembers the greatest counter that has come home with datagrams alike", () -> {
            PassingFrames x = Edges.even(4);
            x.gram(0, 7, 0, 0, 1);
            int[] counters = {0, 2, 1, 2, 3, 0, 4, 3, 4};
            int[] greatest = {0, 2, 2, 2, 3, 3, 4, 4, 4};
            for (int i = 0; i < counters.length; i++) {
                T.due("send()", sendTo(x, counters[i]), counters[i]);
                T.due("expected after the counters up to " + i, x.expected(0), greatest[i]);
            }
        });
        T.test("FRAMES", "for the last 6 different ones", () -> {
            PassingFrames x = Edges.even(4);
            for (int n = 1; n <= 8; n++) {
                send(x, 7, 0, 0, n);
                T.due("count(6) after " + n, x.count(6), Math.min(n, 6));
                x.send();
                T.due("count(6) after the same again", x.count(6), Math.min(n, 6));
                remembers(x, Math.max(1, n - 5), n);
            }
        });
    }

    /** Of the READs of all devices with lengths 1 to 8, those from first to last are remembered. */
    private static void remembers(PassingFrames x, int first, int last) {
        for (int n = 1; n <= 8; n++) {
            x.gram(3, 7, 0, 0, n);
            T.due("expected of length " + n, x.expected(3), n >= first && n <= last ? 4 : NONE);
        }
        x.clear(3);
    }

    private static void forgotten() {
        T.test("FRAMES", "when a seventh different one comes home, the one that has been remembered longest is"
                + " forgotten.", () -> {
            PassingFrames x = Edges.even(4);
            for (int n = 1; n <= 6; n++) {
                send(x, 7, 0, 0, n);
            }
            remembers(x, 1, 6);
            send(x, 7, 0, 0, 1);
            remembers(x, 1, 6);
            // the first one came home once more, but has been remembered longest all the same
            send(x, 7, 0, 0, 7);
            remembers(x, 2, 7);
            x.gram(0, 7, 0, 0, 8);
            x.lose(1);
            x.send();
            remembers(x, 2, 7);
            x.send();
            remembers(x, 3, 8);
        });
        T.test("FRAMES", "the expected counter) for the last 6 different ones", () -> {
            PassingFrames x = Edges.even(4);
            int[] counters = {1, 4, 2, 3, 4, 1, 3, 2};
            for (int n = 1; n <= 8; n++) {
                x.gram(0, 7, 0, 0, n);
                sendTo(x, counters[n - 1]);
            }
            for (int n = 1; n <= 8; n++) {
                T.due("expected of length " + n, expectedOf(x, n), n < 3 ? NONE : counters[n - 1]);
            }
        });
        T.test("FRAMES", "For each datagram that comes home, in the order of their numbers,", () -> {
            PassingFrames x = Edges.even(4);
            for (int n = 1; n <= 5; n++) {
                send(x, 7, 0, 0, n);
            }
            for (int i = 0; i < 3; i++) {
                x.gram(i, 7, 0, 0, 6 + i);
            }
            x.send();
            remembers(x, 3, 8);
            // length 1 takes the place of 3, then 3 that of 4: had 3 come before 1, none but 4 would be forgotten
            x.gram(0, 7, 0, 0, 1);
            x.gram(1, 7, 0, 0, 3);
            x.clear(2);
            x.send();
            T.due("length 1", expectedOf(x, 1), 4);
            T.due("length 3", expectedOf(x, 3), 4);
            T.due("length 4", expectedOf(x, 4), NONE);
            T.due("length 5", expectedOf(x, 5), 4);
            T.due("count(6)", x.count(6), 6);
        });
        T.test("FRAMES", "the one that has been remembered longest is forgotten", () -> {
            PassingFrames x = Edges.even(4);
            for (int n = 1; n <= 7; n++) {
                send(x, 7, 0, 0, n);
            }
            x.gram(0, 7, 0, 0, 1);
            T.due("the forgotten one comes home with less", sendTo(x, 2), 2);
            T.due("it is not short", x.count(5), 0);
            T.due("it is expected with that", x.expected(0), 2);
        });
    }

    private static int expectedOf(PassingFrames x, int n) {
        x.gram(3, 7, 0, 0, n);
        int counter = x.expected(3);
        x.clear(3);
        return counter;
    }

    private static void shortOnes() {
        T.test("FRAMES", "A datagram is short if it comes home with a counter less than the expected one.", () -> {
            PassingFrames x = Edges.even(4);
            x.gram(0, 7, 0, 0, 1);
            int[] counters = {0, 2, 1, 2, 3, 2, 4, 0, 3, 4};
            int[] shorts = {0, 0, 1, 1, 1, 2, 2, 3, 4, 4};
            for (int i = 0; i < counters.length; i++) {
                sendTo(x, counters[i]);
                T.due("count(5) after the counters up to " + i, x.count(5), shorts[i]);
            }
            x.gram(1, 7, 0, 0, 1);
            sendTo(x, 3);
            T.due("two alike in one frame", x.count(5), 6);
            x.lose(1);
            sendTo(x, 2);
            T.due("a lost one", x.count(5), 6);
        });
    }
}
