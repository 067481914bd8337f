/** Promises 1 to 11: the object, the text, the ring, its devices and wires. */
public final class RingTest {
    private static final int BAD = -1, NO = -2, FULL = -3, NONE = -4, LOST = -5;
    private static final Check CHECK = new Check("RingTest");

    public static void main(String[] args) {
        newObject();
        write();
        wipe();
        faultOfDevices();
        faultOfEnds();
        faultPositions();
        lay();
        layResets();
        device();
        memory();
        own();
        cut();
        lose();
        state();
        stateResets();
        eightDevices();
        CHECK.finish();
    }

    private static void due(String call, int got, int want) {
        CHECK.due(call, got, want);
    }

    private static void newObject() {
        PassingFrames x = new PassingFrames();
        int[][] devices = {{11, 3, 0, 5, 0, 1}, {22, 5, 20, 4, 0, 1}, {33, 4, 100, 3, 0, 1}, {7, 2, 50, 4, 0, 1}};
        for (int d = 0; d < 4; d++) {
            for (int what = 0; what < 6; what++) {
                due("new: device(" + d + ", " + what + ")", x.device(d, what), devices[d][what]);
            }
            for (int b = 4; b < 16; b++) {
                due("new: memory(" + d + ", " + b + ")", x.memory(d, b), 0);
            }
            due("new: offset", x.clock(d, 2), 100000000);
            due("new: delay", x.clock(d, 3), 0);
            due("new: read map", x.mapped(d, 0, 0), NONE);
            due("new: write map", x.mapped(d, 1, 0), NONE);
            int[] box = {0, 0, 0, 0, 1, 1, NONE, NONE};
            for (int what = 0; what < 8; what++) {
                due("new: box(" + d + ", " + what + ")", x.box(d, what), box[what]);
            }
        }
        int[] counts = {4, 0, 0, 4, 0, 0, 0, 0, 0, 4, 3, 2, 30};
        for (int what = 0; what < counts.length; what++) {
            due("new: count(" + what + ")", x.count(what), counts[what]);
        }
        for (int i = 0; i < 4; i++) {
            due("new: home", x.home(i, -1), NONE);
            due("new: expected", x.expected(i), NONE);
            due("new: clear", x.clear(i), NO);
            due("new: put", x.put(i, 7, 0), 0);
        }
        due("new: fault()", x.fault(), NONE);
        due("new: wipe()", x.wipe(), 0);
        due("new: lay()", x.lay(), NO);
    }

    private static void write() {
        PassingFrames x = new PassingFrames();
        due("write(31)", x.write(31), BAD);
        due("write(127)", x.write(127), BAD);
        due("write(-1)", x.write(-1), BAD);
        due("write(65536 + 100)", x.write(65636), BAD);
        due("write(32)", x.write(32), 1);
        due("write(126)", x.write(126), 2);
        due("count(8)", x.count(8), 2);
        for (int i = 3; i <= 200; i++) {
            due("write up to 200", x.write('d'), i);
        }
        due("write(100) when full", x.write('d'), FULL);
        due("write(31) when full", x.write(31), BAD);
        due("count(8) when full", x.count(8), 200);
    }

    private static void wipe() {
        PassingFrames x = new PassingFrames();
        due("write", Check.write(x, "d1130005;x"), 10);
        due("wipe()", x.wipe(), 10);
        due("wipe() again", x.wipe(), 0);
        due("fault() after wipe", x.fault(), NONE);
        due("write after wipe", x.write('e'), 1);
        due("what was wiped is not read", x.fault(), 0);
        due("the ring stays", x.count(0), 4);
    }

    private static void fault(String text, int want) {
        PassingFrames x = new PassingFrames();
        Check.write(x, text);
        due("fault() of " + text, x.fault(), want);
        due("fault() of " + text + " again", x.fault(), want);
        due("wipe() after fault()", x.wipe(), text.length());
    }

    private static void faultOfDevices() {
        fault("d0110000;", NONE);
        fault("d9999998;", NONE);
        fault("d0010000;", 0);
        fault("d0100000;", 0);
        fault("d0110009;", 0);
        fault("d011000;", 0);
        fault("d01100000;", 0);
        fault("d0110000:", 0);
        fault("D0110000;", 0);
        fault("d0110000", 0);
        fault("d011000", 0);
        fault("d", 0);
        fault("da110000;", 0);
        fault("d0a10000;", 0);
        fault("d01a0000;", 0);
        fault("d011a000;", 0);
        fault("d0110a00;", 0);
        fault("d01100a0;", 0);
        fault("d011000/;", 0);
        fault("d011000:;", 0);
        fault(" d0110000;", 0);
        fault("d01 10000;", 0);
    }

    private static void faultOfEnds() {
        fault("e100;", NONE);
        fault("e999;e111;", NONE);
        fault("e012;", 0);
        fault("e1a2;", 0);
        fault("e12a;", 0);
        fault("ea12;", 0);
        fault("e1/2;", 0);
        fault("e112,", 0);
        fault("e112", 0);
        fault("e11", 0);
        fault("e", 0);
        fault("E112;", 0);
        fault("e1123;", 0);
    }

    private static void faultPositions() {
        fault("d0110000;d0110000;", 9);
        fault("e123;d0110000;d0210000;d0110000;", 23);
        fault("d0110000; e123;", 9);
        fault("d0110000;e123;d02", 14);
        fault("d0110000;e123;x", 14);
        fault("d0110000;x;d0110000;", 9);
        fault(";", 0);
        String eight = "d0110000;d0210000;d0310000;d0410000;d0510000;d0610000;d0710000;d0810000;";
        fault(eight, NONE);
        fault(eight + "e111;", NONE);
        fault(eight + "d0910000;", 72);
        fault(eight + "e111;d0910000;", 77);
        StringBuilder ends = new StringBuilder();
        for (int i = 0; i < 40; i++) {
            ends.append("e123;");
        }
        fault(ends.toString(), NONE);
        fault(ends.substring(0, 199), 195);
        fullTexts();
    }

    /** The text has 200 characters, of which the last 1 to 9 are the begin of an item. */
    private static void fullTexts() {
        String last = "d9910000;";
        for (int left = 1; left <= 9; left++) {
            StringBuilder text = new StringBuilder();
            for (int i = 0; i < left % 5; i++) {
                text.append("d1").append(i).append("10000;");
            }
            while (text.length() < 200 - left) {
                text.append("e123;");
            }
            int begin = text.length();
            text.append(last, 0, left);
            due("length of a full text", text.length(), 200);
            fault(text.toString(), left == 9 ? NONE : begin);
        }
    }

    private static void lay() {
        PassingFrames x = new PassingFrames();
        Check.write(x, "e999;");
        due("lay() without a device", x.lay(), NO);
        due("ring after it", x.count(0), 4);
        due("last wire after it", x.count(9), 4);
        Check.write(x, "d9990008;");
        due("lay()", x.lay(), 1);
        due("the text stays", x.count(8), 14);
        due("number", x.device(0, 0), 99);
        due("wire", x.device(0, 1), 9);
        due("start", x.device(0, 2), 0);
        due("rate", x.device(0, 3), 8);
        due("no second device", x.device(1, 0), BAD);
        due("last wire", x.count(9), 9);
        due("pass", x.count(10), 9);
        due("turn", x.count(11), 9);
        Check.write(x, "e240;d0510190;");
        due("lay() of the longer text", x.lay(), 2);
        due("last end item counts: wire", x.count(9), 2);
        due("last end item counts: pass", x.count(10), 4);
        due("last end item counts: turn", x.count(11), 0);
        due("second number", x.device(1, 0), 5);
        due("second wire", x.device(1, 1), 1);
        due("second start", x.device(1, 2), 19);
        due("second rate", x.device(1, 3), 0);
        Check.write(x, "d");
        due("lay() of a fault", x.lay(), NO);
        due("it changes nothing", x.count(0), 2);
        x = Check.ring("d0110000;");
        due("last wire without an end item", x.count(9), 1);
        due("pass without an end item", x.count(10), 2);
        due("turn without an end item", x.count(11), 1);
    }

    private static void layResets() {
        PassingFrames x = new PassingFrames();
        for (int d = 0; d < 4; d++) {
            Check.enter(x, d, 3);
            x.own(d, 9, 15);
            x.tell(d, 5);
            x.tell(d, 6);
            x.push(d, 3);
            x.fetch(d);
            x.map(d, 0, 8 * d, 8, 0);
            x.map(d, 1, 8 * d, 8, 4);
        }
        x.put(0, 3, 77);
        x.gram(0, 7, 0, 0, 8);
        x.gram(1, 8, 0, 12, 4);
        x.send();
        x.cut(2, 1);
        x.cut(3, 1);
        x.send();
        x.level();
        x.lose(9);
        x.push(0, 8);
        due("before lay: short", x.count(5), 2);
        Check.write(x, "d1130005;d2250204;d3341003;d0720504;e432;");
        due("lay()", x.lay(), 4);
        x.wipe();
        int[] counts = {4, 0, 0, 4, 0, 0, 0, 0, 0, 4, 3, 2, 30};
        for (int what = 0; what < counts.length; what++) {
            due("after lay: count(" + what + ")", x.count(what), counts[what]);
        }
        int[] box = {0, 0, 0, 0, 1, 1, NONE, NONE};
        for (int d = 0; d < 4; d++) {
            due("after lay: state", x.device(d, 4), 0);
            due("after lay: byte", x.memory(d, 9), 0);
            due("after lay: offset", x.clock(d, 2), 100000000);
            due("after lay: delay", x.clock(d, 3), 0);
            due("after lay: read map", x.mapped(d, 0, 0), NONE);
            due("after lay: write map", x.mapped(d, 1, 0), NONE);
            for (int what = 0; what < 8; what++) {
                due("after lay: box(" + d + ", " + what + ")", x.box(d, what), box[what]);
            }
        }
        due("after lay: home", x.home(0, -1), NONE);
        due("after lay: home byte", x.home(0, 0), NONE);
        due("after lay: no command", x.clear(0), NO);
        due("after lay: bytes", x.put(0, 3, 0), 0);
        due("after lay: send", x.send(), NO);
        x.gram(0, 7, 0, 0, 8);
        due("after lay: expected", x.expected(0), NONE);
    }

    private static void device() {
        PassingFrames x = new PassingFrames();
        due("device(-1, 0)", x.device(-1, 0), BAD);
        due("device(4, 0)", x.device(4, 0), BAD);
        due("device(0, -1)", x.device(0, -1), BAD);
        due("device(0, 6)", x.device(0, 6), BAD);
        Check.enter(x, 2, 2);
        due("device(2, 4)", x.device(2, 4), 2);
        sides(x, "1111");
        x.cut(1, 1);
        sides(x, "1222");
        x.cut(3, 1);
        sides(x, "1002");
        x.cut(4, 1);
        sides(x, "1000");
        x.cut(0, 1);
        sides(x, "0000");
        x.cut(4, 0);
        sides(x, "0002");
        x.cut(3, 0);
        sides(x, "0222");
        x.cut(1, 0);
        sides(x, "2222");
        x.cut(0, 0);
        x.cut(4, 1);
        sides(x, "1111");
    }

    private static void sides(PassingFrames x, String want) {
        int onA = 0;
        int onB = 0;
        for (int d = 0; d < want.length(); d++) {
            int side = want.charAt(d) - '0';
            due("side of " + d + " of " + want, x.device(d, 5), side);
            onA += side == 1 ? 1 : 0;
            onB += side == 2 ? 1 : 0;
        }
        due("count(3) of " + want, x.count(3), onA);
        due("count(4) of " + want, x.count(4), onB);
    }

    private static void memory() {
        PassingFrames x = Check.ring("d9910000;d0120058;d0719994;");
        due("memory(-1, 0)", x.memory(-1, 0), BAD);
        due("memory(3, 0)", x.memory(3, 0), BAD);
        due("memory(0, -1)", x.memory(0, -1), BAD);
        due("memory(0, 16)", x.memory(0, 16), BAD);
        due("number byte", x.memory(0, 0), 99);
        due("number byte of 1", x.memory(1, 0), 1);
        due("state byte", x.memory(0, 1), 0);
        due("clock byte, low", x.memory(2, 2), 999 % 256);
        due("clock byte, high", x.memory(2, 3), 3);
        Check.enter(x, 0, 3);
        due("state byte of RUN", x.memory(0, 1), 3);
        x.later(30);
        // rate 0: floor(30 * -4 / 100) is -2, rate 8: floor(30 * 4 / 100) is 1
        due("slow clock", x.memory(0, 2), 28);
        due("fast clock", x.memory(1, 2), 36);
        due("even clock", x.memory(2, 2), 1029 % 256);
        due("even clock, high", x.memory(2, 3), 4);
        int time = 30;
        while (time + 9999 < 65536) {
            time = x.later(9999);
        }
        time = x.later(65536 - time);
        due("later", time, 65536);
        due("clock beyond 65535, low", x.memory(2, 2), 999 % 256);
        due("clock beyond 65535, high", x.memory(2, 3), 3);
        due("slow clock then, low", x.memory(0, 2), 62914 % 256);
        due("slow clock then, high", x.memory(0, 3), 62914 / 256);
        clockBytesWithOffset();
    }

    private static void clockBytesWithOffset() {
        PassingFrames x = Check.ring("d0110000;d0210004;");
        x.later(9999);
        // the frame passes device 0 at 10000 with 9600 and device 1 at 10003; the delay is 2, the offset -401
        x.level();
        due("time", x.count(1), 10008);
        due("own clock of 1", x.clock(1, 0), 100010008);
        due("system clock of 1", x.clock(1, 1), 100009607);
        due("its low byte", x.memory(1, 2), 9607 % 256);
        due("its high byte", x.memory(1, 3), 9607 / 256);
    }

    private static void eightDevices() {
        PassingFrames x = Check.ring("d0110000;d0220000;d0330000;d0440000;d0550000;d0660000;d0770000;d0880000;e912;");
        due("number of the eighth", x.device(7, 0), 8);
        due("no ninth", x.device(8, 0), BAD);
        due("count(12)", x.count(12), 36 + 9 + 8);
        due("cut(8, 1)", x.cut(8, 1), 1);
        due("cut(9, 1)", x.cut(9, 1), BAD);
        sides(x, "11111111");
        due("count(12) with the last wire cut", x.count(12), 72 + 8 + 14);
        due("cut(7, 1)", x.cut(7, 1), 2);
        sides(x, "11111110");
        due("cut(8, 0)", x.cut(8, 0), 1);
        sides(x, "11111112");
        x.gram(0, 7, 0, 0, 1);
        due("send()", x.send(), 8);
    }

    private static void own() {
        PassingFrames x = new PassingFrames();
        due("own(-1, 4, 0)", x.own(-1, 4, 0), BAD);
        due("own(4, 4, 0)", x.own(4, 4, 0), BAD);
        due("own(0, 3, 0)", x.own(0, 3, 0), BAD);
        due("own(0, 16, 0)", x.own(0, 16, 0), BAD);
        due("own(0, 4, -1)", x.own(0, 4, -1), BAD);
        due("own(0, 4, 256)", x.own(0, 4, 256), BAD);
        due("own(0, 4, 255)", x.own(0, 4, 255), 0);
        due("own(0, 4, 0)", x.own(0, 4, 0), 255);
        due("own(3, 15, 1)", x.own(3, 15, 1), 0);
        due("memory(3, 15)", x.memory(3, 15), 1);
        due("memory(2, 15)", x.memory(2, 15), 0);
        x.cut(0, 1);
        x.cut(4, 1);
        due("own on no side", x.own(3, 15, 7), 1);
        due("memory on no side", x.memory(3, 15), 7);
        due("no time passes", x.count(1), 0);
    }

    private static void cut() {
        PassingFrames x = new PassingFrames();
        due("cut(-1, 1)", x.cut(-1, 1), BAD);
        due("cut(5, 1)", x.cut(5, 1), BAD);
        due("cut(0, 2)", x.cut(0, 2), BAD);
        due("cut(0, -1)", x.cut(0, -1), BAD);
        due("cut(0, 0)", x.cut(0, 0), NO);
        for (int w = 0; w <= 4; w++) {
            due("cut(" + w + ", 1)", x.cut(w, 1), w + 1);
            due("cut(" + w + ", 1) again", x.cut(w, 1), NO);
            due("count(2)", x.count(2), w + 1);
        }
        due("cut(4, 0)", x.cut(4, 0), 4);
        due("cut(4, 0) again", x.cut(4, 0), NO);
        x = Check.ring("d0110000;");
        due("cut(1, 1) in the small ring", x.cut(1, 1), 1);
        due("cut(2, 1) in the small ring", x.cut(2, 1), BAD);
    }

    private static void lose() {
        PassingFrames x = new PassingFrames();
        due("lose(-1)", x.lose(-1), BAD);
        due("lose(10)", x.lose(10), BAD);
        due("lose(9)", x.lose(9), 0);
        due("lose(2)", x.lose(2), 9);
        due("count(7)", x.count(7), 2);
        x.gram(0, 7, 0, 0, 1);
        x.level();
        x.steer(1);
        due("level and steer are never lost", x.count(7), 2);
        due("fetch that is not sent", x.fetch(0), NO);
        due("it is not lost", x.count(7), 2);
        due("send()", x.send(), LOST);
        due("count(7)", x.count(7), 1);
        Check.enter(x, 0, 1);
        due("push()", x.push(0, 1), LOST);
        due("count(7)", x.count(7), 0);
        due("send()", x.send(), 4);
        x.lose(3);
        due("lose(0)", x.lose(0), 3);
        due("send()", x.send(), 4);
        x.lose(2);
        due("again()", x.again(0), LOST);
        due("fetch()", x.fetch(0), LOST);
        due("count(7)", x.count(7), 0);
    }

    private static void state() {
        PassingFrames x = new PassingFrames();
        due("state(-1, 1)", x.state(-1, 1), BAD);
        due("state(4, 1)", x.state(4, 1), BAD);
        due("state(0, -1)", x.state(0, -1), BAD);
        due("state(0, 4)", x.state(0, 4), BAD);
        due("state(0, 0)", x.state(0, 0), NO);
        due("state(0, 2)", x.state(0, 2), NO);
        due("state(0, 3)", x.state(0, 3), NO);
        due("state(0, 1)", x.state(0, 1), 0);
        due("state(0, 3) from PREP", x.state(0, 3), NO);
        due("state(0, 2)", x.state(0, 2), 1);
        due("state(0, 3)", x.state(0, 3), 2);
        due("state(0, 3) again", x.state(0, 3), NO);
        due("state(0, 1) from RUN", x.state(0, 1), 3);
        due("state(0, 0)", x.state(0, 0), 1);
        due("no time passes", x.count(1), 0);
        x.cut(1, 1);
        x.cut(2, 1);
        due("state on no side", x.state(1, 1), NO);
        due("a bad state on no side", x.state(1, 4), BAD);
        due("state on the A side", x.state(0, 1), 0);
        due("state on the B side", x.state(2, 1), 0);
    }

    private static void stateResets() {
        PassingFrames x = new PassingFrames();
        Check.enter(x, 1, 3);
        Check.enter(x, 2, 3);
        for (int d = 1; d < 3; d++) {
            x.tell(d, 9);
            x.tell(d, 8);
            x.push(d, 7);
            x.fetch(d);
            x.lose(1);
            x.push(d, 6);
        }
        x.own(1, 4, 3);
        x.map(1, 0, 0, 1, 0);
        x.level();
        int offset = x.clock(1, 2);
        due("before", x.box(1, 7), 6);
        due("state(1, 1) keeps the boxes", x.state(1, 1), 3);
        int[] before = {1, 2, 1, 0, 0, 0, 9, 6};
        int[] after = {0, 0, 0, 0, 1, 1, NONE, NONE};
        for (int what = 0; what < 8; what++) {
            due("in PREP: box(1, " + what + ")", x.box(1, what), before[what]);
        }
        due("state(1, 0)", x.state(1, 0), 1);
        for (int what = 0; what < 8; what++) {
            due("in INIT: box(1, " + what + ")", x.box(1, what), after[what]);
            due("of another device: box(2, " + what + ")", x.box(2, what), before[what]);
        }
        due("the byte stays", x.memory(1, 4), 3);
        due("the map stays", x.mapped(1, 0, 1), 1);
        due("the offset stays", x.clock(1, 2), offset);
    }
}
