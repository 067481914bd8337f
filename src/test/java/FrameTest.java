/** Promises 15 to 20: the datagrams, and what the devices do with them. */
public final class FrameTest {
    private static final int BAD = -1, NO = -2, NONE = -4, LOST = -5;
    private static final Check CHECK = new Check("FrameTest");

    public static void main(String[] args) {
        gram();
        gramKeepsBytes();
        clear();
        put();
        sendAtAll();
        byPosition();
        byNumber();
        toAll();
        bothKeepsWhatCame();
        limitsOfOffset();
        byMapStates();
        byMapBytes();
        inOrderOfDatagrams();
        clockBytesOnA();
        clockBytesOnB();
        joinedBytes();
        trips();
        lostFrames();
        home();
        expected();
        expectedForgets();
        shortOnes();
        CHECK.finish();
    }

    private static void due(String call, int got, int want) {
        CHECK.due(call, got, want);
    }

    private static void badGram(PassingFrames x, int i, int command, int address, int offset, int n) {
        String call = "gram(" + i + ", " + command + ", " + address + ", " + offset + ", " + n + ")";
        due(call, x.gram(i, command, address, offset, n), BAD);
    }

    private static void gram() {
        PassingFrames x = new PassingFrames();
        badGram(x, -1, 1, 0, 0, 1);
        badGram(x, 4, 1, 0, 0, 1);
        badGram(x, 0, 0, 0, 0, 1);
        badGram(x, 0, 13, 0, 0, 1);
        badGram(x, 0, 1, 0, -1, 1);
        badGram(x, 0, 1, 0, 16, 1);
        badGram(x, 0, 1, 0, 0, 0);
        badGram(x, 0, 1, 0, 0, 9);
        for (int command = 1; command <= 12; command++) {
            int least = command >= 4 && command <= 6 ? 1 : 0;
            int most = command <= 3 ? 7 : command <= 6 ? 99 : command <= 9 ? 0 : 29;
            badGram(x, 1, command, least - 1, 0, 3);
            badGram(x, 1, command, most + 1, 0, 3);
            due("gram of least address", x.gram(1, command, least, 0, 3), command - 1);
            due("gram of most address", x.gram(1, command, most, 0, 3), command);
            int far = x.gram(1, command, least, 15, 8);
            due("gram at offset 15", far, command <= 9 ? command : BAD);
        }
        badGram(x, 0, 10, 0, 1, 1);
        badGram(x, 0, 11, 0, 1, 1);
        badGram(x, 0, 12, 0, 1, 1);
        due("gram(0, 10, 31, 0, 1)", x.gram(0, 10, 31, 0, 1), 0);
        badGram(x, 0, 10, 32, 0, 1);
        badGram(x, 0, 10, 25, 0, 8);
        due("gram(0, 10, 24, 0, 8)", x.gram(0, 10, 24, 0, 8), 10);
        badGram(x, 0, 10, 24, 0, Integer.MIN_VALUE);
        due("bad ones set nothing", x.clear(0), 10);
        due("others are not touched", x.clear(2), NO);
    }

    private static void gramKeepsBytes() {
        PassingFrames x = new PassingFrames();
        x.put(0, 0, 5);
        x.gram(0, 5, 22, 4, 1);
        due("gram keeps the bytes", x.put(0, 0, 5), 5);
        x.send();
        due("and they are sent", x.memory(1, 4), 5);
        x.gram(0, 4, 22, 0, 1);
        x.send();
        due("what came home", x.home(0, 0), 22);
        due("is not what leaves", x.put(0, 0, 6), 5);
        due("home is not what is put", x.home(0, 0), 22);
    }

    private static void clear() {
        PassingFrames x = new PassingFrames();
        due("clear(-1)", x.clear(-1), BAD);
        due("clear(4)", x.clear(4), BAD);
        due("clear(0)", x.clear(0), NO);
        x.put(0, 7, 3);
        x.gram(0, 12, 0, 0, 1);
        due("clear(0) of 12", x.clear(0), 12);
        due("clear(0) again", x.clear(0), NO);
        due("clear keeps the bytes", x.put(0, 7, 0), 3);
        due("gram() after clear", x.gram(0, 1, 0, 0, 1), 0);
        x.gram(3, 7, 0, 0, 1);
        due("send()", x.send(), 5);
        due("clear(0)", x.clear(0), 1);
        due("home stays after clear", x.home(0, -1), 1);
        due("send() without it", x.send(), 4);
        due("home after that", x.home(0, -1), NONE);
    }

    private static void put() {
        PassingFrames x = new PassingFrames();
        due("put(-1, 0, 0)", x.put(-1, 0, 0), BAD);
        due("put(4, 0, 0)", x.put(4, 0, 0), BAD);
        due("put(0, -1, 0)", x.put(0, -1, 0), BAD);
        due("put(0, 8, 0)", x.put(0, 8, 0), BAD);
        due("put(0, 0, -1)", x.put(0, 0, -1), BAD);
        due("put(0, 0, 256)", x.put(0, 0, 256), BAD);
        due("put(0, 0, 255)", x.put(0, 0, 255), 0);
        due("put(0, 7, 1)", x.put(0, 7, 1), 0);
        due("put(0, 0, 0)", x.put(0, 0, 0), 255);
        due("put(0, 7, 0)", x.put(0, 7, 0), 1);
        due("put(1, 0, 0)", x.put(1, 0, 0), 0);
    }

    private static void sendAtAll() {
        PassingFrames x = new PassingFrames();
        x.lose(1);
        due("send() without a command", x.send(), NO);
        due("nothing was sent", x.count(1), 0);
        due("nothing was lost", x.count(7), 1);
        x.lose(0);
        x.gram(2, 4, 50, 0, 1);
        due("send() that nobody is meant by", x.send(), 0);
        due("time", x.count(1), 30);
        due("home(2, -1)", x.home(2, -1), 0);
        due("home(0, -1)", x.home(0, -1), NONE);
    }

    private static void byPosition() {
        PassingFrames x = new PassingFrames();
        x.put(1, 0, 44);
        x.put(2, 0, 55);
        x.own(2, 6, 66);
        x.gram(0, 1, 1, 0, 1);
        x.gram(1, 2, 3, 5, 1);
        x.gram(2, 3, 2, 6, 1);
        x.gram(3, 1, 4, 0, 1);
        due("send()", x.send(), 5);
        due("read counter", x.home(0, -1), 1);
        due("read byte", x.home(0, 0), 22);
        due("write counter", x.home(1, -1), 1);
        due("write byte comes home", x.home(1, 0), 44);
        due("written", x.memory(3, 5), 44);
        due("both counter", x.home(2, -1), 3);
        due("both read", x.home(2, 0), 66);
        due("both written", x.memory(2, 6), 55);
        due("no such position", x.home(3, -1), 0);
        due("its byte", x.home(3, 0), 0);
        due("others are not written", x.memory(2, 5) + x.memory(0, 5) + x.memory(1, 6), 0);
        // on the B side the positions count from its first device
        x.cut(1, 1);
        x.gram(0, 1, 0, 0, 1);
        x.gram(1, 1, 2, 0, 1);
        x.gram(2, 1, 3, 0, 1);
        x.clear(3);
        due("send() to both sides", x.send(), 3);
        due("position 0 of both", x.home(0, -1), 2);
        due("the A frame counts", x.home(0, 0), 11);
        due("position 2 of B", x.home(1, 0), 7);
        due("position 3 of none", x.home(2, -1), 0);
    }

    private static void byNumber() {
        PassingFrames x = new PassingFrames();
        x.put(1, 0, 44);
        x.put(2, 0, 55);
        x.gram(0, 4, 7, 0, 1);
        x.gram(1, 5, 33, 4, 1);
        x.gram(2, 6, 33, 4, 1);
        x.gram(3, 4, 1, 0, 1);
        due("send()", x.send(), 5);
        due("read", x.home(0, 0), 7);
        due("both read", x.home(2, 0), 44);
        due("both written", x.memory(2, 4), 55);
        due("no such number", x.home(3, -1), 0);
        x.cut(2, 1);
        due("also on the B side", x.send(), 5);
        x.cut(3, 1);
        due("not on no side", x.send(), 1);
        due("number 7 is on the B side", x.home(0, -1), 1);
        due("number 33 is on no side", x.home(1, -1), 0);
    }

    private static void toAll() {
        PassingFrames x = new PassingFrames();
        x.own(0, 8, 1);
        x.own(1, 8, 2);
        x.own(2, 8, 4);
        x.own(3, 8, 8);
        x.put(0, 0, 128);
        x.put(1, 0, 64);
        x.put(1, 1, 32);
        x.gram(0, 7, 0, 8, 1);
        x.gram(1, 8, 0, 8, 2);
        due("send()", x.send(), 8);
        due("combined by OR", x.home(0, 0), 143);
        due("counter", x.home(0, -1), 4);
        due("WRITE is not combined", x.home(1, 0), 64);
        for (int d = 0; d < 4; d++) {
            due("written", x.memory(d, 8), 64);
            due("written", x.memory(d, 9), 32);
            due("not written", x.memory(d, 10), 0);
        }
        x.cut(1, 1);
        x.cut(2, 1);
        x.put(1, 0, 3);
        due("send() to three", x.send(), 6);
        due("not written on no side", x.memory(1, 8), 64);
        due("written on the B side", x.memory(2, 8), 3);
    }

    private static void bothKeepsWhatCame() {
        PassingFrames x = new PassingFrames();
        x.own(0, 5, 1);
        x.own(1, 5, 2);
        x.own(3, 5, 8);
        x.put(0, 0, 16);
        x.gram(0, 9, 0, 5, 1);
        due("send() of BOTH to all", x.send(), 12);
        due("home", x.home(0, 0), 27);
        due("device 0 gets what came to it", x.memory(0, 5), 16);
        due("device 1", x.memory(1, 5), 17);
        due("device 2", x.memory(2, 5), 19);
        due("device 3", x.memory(3, 5), 19);
    }

    private static void limitsOfOffset() {
        PassingFrames x = new PassingFrames();
        for (int i = 0; i < 8; i++) {
            x.put(0, i, i + 1);
        }
        x.gram(0, 4, 11, 8, 8);
        x.gram(1, 4, 11, 9, 8);
        x.gram(2, 4, 11, 15, 1);
        x.gram(3, 4, 11, 15, 2);
        due("READ up to byte 15", x.send(), 2);
        due("home(0, -1)", x.home(0, -1), 1);
        due("home(1, -1)", x.home(1, -1), 0);
        due("home(2, -1)", x.home(2, -1), 1);
        due("home(3, -1)", x.home(3, -1), 0);
        x.gram(0, 5, 11, 8, 8);
        x.gram(1, 5, 11, 9, 8);
        x.gram(2, 5, 11, 3, 1);
        x.gram(3, 5, 11, 4, 1);
        x.put(3, 0, 99);
        due("WRITE to bytes 4 to 15", x.send(), 2);
        due("home(0, -1)", x.home(0, -1), 1);
        due("home(1, -1)", x.home(1, -1), 0);
        due("home(2, -1)", x.home(2, -1), 0);
        due("home(3, -1)", x.home(3, -1), 1);
        due("memory(0, 4)", x.memory(0, 4), 99);
        for (int b = 8; b < 16; b++) {
            due("memory(0, " + b + ")", x.memory(0, b), b - 7);
        }
        x.gram(0, 6, 11, 3, 2);
        x.gram(1, 6, 11, 12, 5);
        x.gram(2, 6, 11, 12, 4);
        x.gram(3, 9, 0, 0, 1);
        due("BOTH reads at least", x.send(), 8);
        due("home(0, -1)", x.home(0, -1), 1);
        due("home(0, 1)", x.home(0, 1), 99);
        due("home(1, -1)", x.home(1, -1), 0);
        due("home(2, -1)", x.home(2, -1), 3);
        due("home(3, -1)", x.home(3, -1), 4);
        due("home(3, 0)", x.home(3, 0), 11 | 22 | 33 | 7 | 99);
        due("memory(0, 4) stays", x.memory(0, 4), 99);
    }

    private static void byMapStates() {
        for (int state = 0; state <= 3; state++) {
            PassingFrames x = new PassingFrames();
            Check.enter(x, 1, state);
            x.map(1, 0, 4, 2, 0);
            x.map(1, 1, 4, 2, 4);
            x.put(1, 0, 50);
            x.put(2, 0, 60);
            x.gram(0, 10, 4, 0, 2);
            x.gram(1, 11, 4, 0, 1);
            x.gram(2, 12, 4, 0, 1);
            int read = state >= 2 ? 1 : 0;
            int written = state == 3 ? 1 : 0;
            due("send() in state " + state, x.send(), read + written + read + 2 * written);
            due("READ in state " + state, x.home(0, -1), read);
            due("its byte", x.home(0, 0), read == 1 ? 22 : 0);
            due("its state byte", x.home(0, 1), read == 1 ? state : 0);
            due("WRITE in state " + state, x.home(1, -1), written);
            due("BOTH in state " + state, x.home(2, -1), read + 2 * written);
            due("BOTH reads", x.home(2, 0), read == 1 ? 22 : 60);
            due("BOTH writes", x.memory(1, 4), written == 1 ? 60 : 0);
        }
    }

    private static void byMapBytes() {
        PassingFrames x = new PassingFrames();
        for (int d = 0; d < 4; d++) {
            Check.enter(x, d, 3);
            for (int b = 4; b < 16; b++) {
                x.own(d, b, 16 * d + b);
            }
        }
        x.map(0, 0, 8, 4, 12);
        x.map(2, 0, 12, 8, 4);
        x.map(1, 1, 14, 4, 7);
        x.map(3, 1, 20, 1, 15);
        for (int k = 0; k < 8; k++) {
            x.put(0, k, 100 + k);
            x.put(1, k, 200 + k);
            x.put(2, k, 210 + k);
            x.put(3, k, 220 + k);
        }
        x.gram(0, 10, 6, 0, 8);
        x.gram(1, 11, 16, 0, 8);
        x.gram(2, 12, 17, 0, 4);
        x.gram(3, 10, 20, 0, 8);
        due("send()", x.send(), 2 + 2 + 5 + 0);
        int[] first = {100, 101, 12, 13, 14, 15, 36, 37};
        for (int k = 0; k < 8; k++) {
            due("READ by the map, byte " + k, x.home(0, k), first[k]);
        }
        due("WRITE counts devices", x.home(1, -1), 2);
        due("WRITE leaves the bytes", x.home(1, 3), 203);
        due("memory(1, 7)", x.memory(1, 7), 23);
        due("memory(1, 8)", x.memory(1, 8), 24);
        due("memory(1, 9)", x.memory(1, 9), 200);
        due("memory(1, 10), as BOTH wrote it", x.memory(1, 10), 210);
        due("memory(1, 11)", x.memory(1, 11), 27);
        // device 2 passes after device 1 and before device 3, so its bytes come to device 3 if they lie over its place
        due("memory(3, 15)", x.memory(3, 15), 213);
        due("BOTH: counter", x.home(2, -1), 5);
        due("BOTH: place 17", x.home(2, 0), 41);
        due("BOTH: place 18", x.home(2, 1), 42);
        due("BOTH: place 19", x.home(2, 2), 43);
        due("BOTH: place 20", x.home(2, 3), 213);
        due("READ of places without a map", x.home(3, -1), 0);
        due("its byte", x.home(3, 0), 220);
        x.unmap(1, 1);
        x.map(3, 1, 12, 2, 4);
        x.gram(2, 12, 13, 0, 1);
        x.send();
        due("BOTH of two devices", x.home(2, -1), 3);
        due("a later device is written what the former put in", x.memory(3, 5), 37);
    }

    private static void inOrderOfDatagrams() {
        PassingFrames x = new PassingFrames();
        x.put(0, 0, 9);
        x.put(2, 0, 8);
        x.gram(0, 5, 22, 4, 1);
        x.gram(1, 4, 22, 4, 1);
        x.gram(2, 5, 22, 4, 1);
        x.gram(3, 4, 22, 4, 1);
        due("send()", x.send(), 4);
        due("read after the first write", x.home(1, 0), 9);
        due("read after the second write", x.home(3, 0), 8);
        due("memory(1, 4)", x.memory(1, 4), 8);
    }

    /** A device passes a frame at its own time; even clocks that begin with 0 tell it. */
    private static void clockBytesOnA() {
        PassingFrames x = Check.ring("d0120004;d0230004;d0340004;e576;");
        x.later(300);
        for (int i = 0; i < 3; i++) {
            x.gram(i, 1, i, 2, 2);
        }
        due("send()", x.send(), 3);
        int[] times = {302, 302 + 7 + 3, 302 + 7 + 3 + 7 + 4};
        for (int i = 0; i < 3; i++) {
            due("low byte at " + i, x.home(i, 0), times[i] % 256);
            due("high byte at " + i, x.home(i, 1), times[i] / 256);
        }
        due("time after it", x.count(1), 300 + 14 + 21);
    }

    private static void clockBytesOnB() {
        PassingFrames x = Check.ring("d0120004;d0230004;d0340004;d0480004;e576;");
        x.cut(1, 1);
        for (int i = 0; i < 4; i++) {
            x.gram(i, 4, i + 1, 2, 1);
        }
        due("send()", x.send(), 4);
        // wires 2 to 4 are 4 + 8 + 5 and two devices are turned at, then pass and a wire each
        int[] times = {2, 17 + 12, 17 + 12 + 7 + 4, 17 + 12 + 7 + 4 + 7 + 8};
        for (int i = 0; i < 4; i++) {
            due("device " + i, x.home(i, 0), times[i]);
        }
        due("time after it", x.count(1), 2 * 17 + 3 * 7 + 2 * 6);
        x.cut(3, 1);
        int time = x.count(1);
        x.send();
        due("the only one of the B side", x.home(3, 0), time + 5);
        due("one on no side", x.home(1, -1), 0);
    }

    private static void joinedBytes() {
        PassingFrames x = Check.ring("d0110004;d0210004;d0310004;");
        x.cut(1, 1);
        x.own(0, 4, 5);
        x.own(1, 4, 6);
        x.put(0, 0, 5);
        x.gram(0, 1, 0, 4, 1);
        x.gram(1, 1, 0, 4, 1);
        x.put(2, 0, 6);
        x.gram(2, 1, 0, 4, 1);
        x.put(3, 0, 8);
        x.gram(3, 7, 0, 4, 1);
        due("send()", x.send(), 2 + 2 + 2 + 3);
        due("A is what was sent: that of B", x.home(0, 0), 6);
        due("A differs: that of A", x.home(1, 0), 5);
        due("B is what was sent: that of A", x.home(2, 0), 5);
        due("READ to all: OR", x.home(3, 0), 15);
        x.own(0, 4, 1);
        x.own(1, 4, 2);
        x.own(2, 4, 4);
        x.gram(0, 9, 0, 4, 1);
        x.put(0, 0, 8);
        x.clear(1);
        x.clear(2);
        x.clear(3);
        due("BOTH to all", x.send(), 9);
        due("BOTH to all: OR", x.home(0, 0), 15);
        due("memory(0, 4)", x.memory(0, 4), 8);
        due("memory(1, 4) got the bytes from B", x.memory(1, 4), 8);
        due("memory(2, 4)", x.memory(2, 4), 10);
        joinedMapBytes();
    }

    private static void joinedMapBytes() {
        PassingFrames x = Check.ring("d0110004;d0210004;");
        x.cut(1, 1);
        Check.enter(x, 0, 2);
        Check.enter(x, 1, 2);
        x.map(0, 0, 0, 2, 0);
        x.map(1, 0, 2, 2, 0);
        x.gram(0, 10, 0, 0, 5);
        x.put(0, 4, 77);
        due("READ by the map from both sides", x.send(), 2);
        int[] bytes = {1, 2, 2, 2, 77};
        for (int k = 0; k < 5; k++) {
            due("byte " + k, x.home(0, k), bytes[k]);
        }
    }

    private static void trips() {
        PassingFrames x = new PassingFrames();
        x.gram(0, 7, 0, 0, 1);
        tripIs(x, 30);
        x.cut(4, 1);
        tripIs(x, 2 * 14 + 4 * 3 + 3 * 2);
        x.cut(4, 0);
        x.cut(0, 1);
        tripIs(x, 2 * 15 + 4 * 3 + 3 * 2);
        x.cut(4, 1);
        tripIs(x, 0);
        x.cut(0, 0);
        x.cut(1, 1);
        tripIs(x, 2 * 3 + 3);
        x.cut(4, 0);
        tripIs(x, 2 * 10 + 3 * 3 + 2 * 2);
        x.cut(3, 1);
        tripIs(x, 2 * 4 + 3);
        x.cut(1, 0);
        tripIs(x, 2 * 12 + 3 * 3 + 2 * 2);
    }

    private static void tripIs(PassingFrames x, int trip) {
        int time = x.count(1);
        due("count(12)", x.count(12), trip);
        x.send();
        due("time of send", x.count(1) - time, trip);
        x.lose(1);
        x.send();
        due("time of a lost frame", x.count(1) - time, 2 * trip);
    }

    private static void lostFrames() {
        PassingFrames x = new PassingFrames();
        x.gram(0, 8, 0, 4, 1);
        x.put(0, 0, 1);
        x.lose(1);
        due("first send()", x.send(), LOST);
        due("home before any", x.home(0, -1), NONE);
        due("expected", x.expected(0), NONE);
        due("edited all the same", x.memory(3, 4), 1);
        due("send()", x.send(), 4);
        due("home(0, 0)", x.home(0, 0), 1);
        x.put(0, 0, 2);
        x.cut(2, 1);
        x.cut(3, 1);
        x.lose(1);
        due("lost send()", x.send(), LOST);
        due("home is that before", x.home(0, 0), 1);
        due("its counter too", x.home(0, -1), 4);
        due("a lost one is not short", x.count(5), 0);
        due("edited on A", x.memory(0, 4), 2);
        due("edited on B", x.memory(3, 4), 2);
        due("not edited on no side", x.memory(2, 4), 1);
    }

    private static void home() {
        PassingFrames x = new PassingFrames();
        x.gram(0, 8, 0, 4, 3);
        for (int k = 0; k < 8; k++) {
            x.put(0, k, 10 + k);
        }
        due("home(0, 0) before any", x.home(0, 0), NONE);
        due("home(-1, 0) before any", x.home(-1, 0), BAD);
        x.send();
        due("home(-1, 0)", x.home(-1, 0), BAD);
        due("home(4, 0)", x.home(4, 0), BAD);
        due("home(0, -2)", x.home(0, -2), BAD);
        due("home(0, 8)", x.home(0, 8), BAD);
        due("home(1, 8)", x.home(1, 8), BAD);
        due("home(0, -1)", x.home(0, -1), 4);
        due("home(0, 0)", x.home(0, 0), 10);
        due("home(0, 2)", x.home(0, 2), 12);
        due("home(0, 3)", x.home(0, 3), NONE);
        due("home(0, 7)", x.home(0, 7), NONE);
        due("home(1, -1)", x.home(1, -1), NONE);
        due("home(1, 0)", x.home(1, 0), NONE);
        x.gram(0, 7, 0, 0, 8);
        x.gram(1, 7, 0, 0, 8);
        due("the length is that of then", x.home(0, 3), NONE);
        due("the byte is that of then", x.home(0, 0), 10);
        due("no command then", x.home(1, 0), NONE);
        x.fetch(0);
        Check.enter(x, 0, 1);
        x.fetch(0);
        due("fetch() changes nothing there", x.home(0, -1), 4);
        x.send();
        due("home(0, 7) of the new one", x.home(0, 7), 17);
        x.clear(0);
        due("home after clear", x.home(0, 7), 17);
        x.send();
        due("home after a send without it", x.home(0, -1), NONE);
        due("home of the other", x.home(1, -1), 4);
    }

    private static void expected() {
        PassingFrames x = new PassingFrames();
        due("expected(-1)", x.expected(-1), BAD);
        due("expected(4)", x.expected(4), BAD);
        due("expected(0) without a command", x.expected(0), NONE);
        x.gram(0, 7, 0, 0, 1);
        due("expected(0) before any", x.expected(0), NONE);
        x.cut(1, 1);
        x.cut(2, 1);
        x.send();
        due("expected(0)", x.expected(0), 3);
        x.cut(1, 0);
        x.cut(2, 0);
        due("it comes home with more", x.send(), 4);
        due("expected(0)", x.expected(0), 4);
        x.cut(0, 1);
        x.cut(4, 1);
        due("it comes home with less", x.send(), 0);
        due("expected(0) stays", x.expected(0), 4);
        x.gram(1, 7, 0, 0, 1);
        due("also of another alike", x.expected(1), 4);
        x.gram(1, 7, 0, 0, 2);
        due("other length", x.expected(1), NONE);
        x.gram(1, 7, 0, 1, 1);
        due("other offset", x.expected(1), NONE);
        x.gram(1, 8, 0, 0, 1);
        due("other command", x.expected(1), NONE);
        x.gram(1, 4, 1, 0, 1);
        x.send();
        x.gram(1, 4, 2, 0, 1);
        due("other address", x.expected(1), NONE);
        x.gram(1, 4, 1, 0, 1);
        due("same address", x.expected(1), 0);
        for (int command = 1; command <= 3; command++) {
            x.gram(1, command, 0, 4, 1);
            x.send();
            due("expected by position, command " + command, x.expected(1), 0);
        }
        x.clear(0);
        due("cleared", x.expected(0), NONE);
        x.gram(0, 7, 0, 0, 1);
        due("set again", x.expected(0), 4);
        likenesses();
        forgottenCounters();
    }

    /** Datagrams that are unlike in two ways at once. */
    private static void likenesses() {
        PassingFrames x = new PassingFrames();
        x.gram(0, 5, 2, 3, 4);
        x.send();
        int[][] others = {{4, 3, 3, 4}, {6, 1, 3, 4}, {5, 1, 4, 4}, {5, 3, 2, 4}, {5, 2, 2, 5}, {5, 2, 4, 3},
            {5, 1, 3, 5}, {5, 3, 3, 3}, {4, 2, 4, 4}, {4, 2, 3, 5}, {6, 2, 3, 3}, {2, 5, 3, 4}, {5, 2, 4, 3}};
        for (int[] o : others) {
            x.gram(0, o[0], o[1], o[2], o[3]);
            due("expected of " + o[0] + ", " + o[1] + ", " + o[2] + ", " + o[3], x.expected(0), NONE);
        }
        x.gram(0, 5, 2, 3, 4);
        due("expected of the same", x.expected(0), 0);
    }

    private static void forgottenCounters() {
        PassingFrames x = new PassingFrames();
        int[] commands = {7, 9, 4, 6, 5, 1, 3, 2};
        int[] counters = {4, 12, 1, 3, 1, 1, 3, 1};
        for (int i = 0; i < commands.length; i++) {
            x.gram(0, commands[i], commands[i] < 4 ? 1 : commands[i] < 7 ? 22 : 0, 5, 1);
            due("send() of command " + commands[i], x.send(), counters[i]);
        }
        for (int i = 0; i < commands.length; i++) {
            x.gram(0, commands[i], commands[i] < 4 ? 1 : commands[i] < 7 ? 22 : 0, 5, 1);
            due("expected of command " + commands[i], x.expected(0), i < 2 ? NONE : counters[i]);
        }
    }

    private static void expectedForgets() {
        PassingFrames x = new PassingFrames();
        for (int n = 1; n <= 6; n++) {
            x.gram(0, 7, 0, 0, n);
            x.send();
            due("count(6)", x.count(6), n);
        }
        // the first one comes home again, but that does not make it younger
        x.gram(0, 7, 0, 0, 1);
        x.send();
        due("six are remembered", x.count(6), 6);
        x.gram(0, 7, 0, 0, 7);
        x.send();
        due("still six", x.count(6), 6);
        for (int n = 1; n <= 8; n++) {
            x.gram(0, 7, 0, 0, n);
            due("expected of length " + n, x.expected(0), n >= 2 && n <= 7 ? 4 : NONE);
        }
        // three at once: the first two push out the oldest ones before the third is compared
        x.gram(0, 8, 0, 4, 1);
        x.gram(1, 8, 0, 4, 2);
        x.gram(2, 7, 0, 0, 3);
        x.cut(4, 1);
        x.cut(0, 1);
        x.send();
        due("it was forgotten before", x.count(5), 0);
        due("so it is expected with 0", x.expected(2), 0);
        x.gram(2, 7, 0, 0, 4);
        due("and the next one went", x.expected(2), NONE);
        x.gram(2, 7, 0, 0, 5);
        due("but not the one after it", x.expected(2), 4);
    }

    private static void shortOnes() {
        PassingFrames x = new PassingFrames();
        x.gram(0, 7, 0, 0, 1);
        x.gram(1, 7, 0, 0, 1);
        x.gram(2, 4, 7, 0, 1);
        x.send();
        due("none is short", x.count(5), 0);
        due("alike ones are remembered once", x.count(6), 2);
        x.cut(4, 1);
        x.cut(3, 1);
        due("send()", x.send(), 6);
        due("three are short", x.count(5), 3);
        x.send();
        due("and three again", x.count(5), 6);
        x.lose(1);
        x.send();
        due("lost ones do not come home", x.count(5), 6);
        x.cut(4, 0);
        x.cut(3, 0);
        x.send();
        due("none is short then", x.count(5), 6);
    }
}
