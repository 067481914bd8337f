/** The sentences of the promises 27 to 32 that name a boundary, and that about 512 calls. */
public final class EdgesOfClocksTest {
    private static final int BAD = -1, NO = -2, ZERO = 100000000;
    private static final Edges T = new Edges("EdgesOfClocksTest");

    public static void main(String[] args) {
        later();
        levelTimes();
        levelDelays();
        levelRounds();
        levelOffsets();
        levelAnswers();
        steerDeviations();
        steerSteps();
        steerAnswers();
        clock();
        apart();
        count();
        countAtItsEnds();
        lastCall();
        T.finish();
    }

    /** A ring at a time below 10000. */
    private static PassingFrames at(String text, int time) {
        PassingFrames x = Check.ring(text);
        x.later(time);
        return x;
    }

    private static void later() {
        T.test("27", "t: how much, 1 to 9999", () -> T.range("later", 1, 9999, Edges::busy, (x, t) -> x.later(t)));
        T.test("27", "Lets time pass.", () -> {
            PassingFrames x = Check.ring("d0110004;");
            x.later(255);
            T.row("clock", new int[] {x.clock(0, 0), x.memory(0, 2), x.memory(0, 3)}, ZERO + 255, 255, 0);
            x.later(1);
            T.row("clock then", new int[] {x.clock(0, 0), x.memory(0, 2), x.memory(0, 3)}, ZERO + 256, 0, 1);
        });
        T.test("27", "Returns the time then", () -> {
            PassingFrames x = new PassingFrames();
            T.due("later(1)", x.later(1), 1);
            T.due("later(9999)", x.later(9999), 10000);
            T.due("later(2)", x.later(2), 10002);
            T.due("later(9998)", x.later(9998), 20000);
            T.due("count(1)", x.count(1), 20000);
        });
        T.test("27", "BAD if t is out of range.", () -> {
            T.refused("later(0)", BAD, Edges::busy, x -> x.later(0));
            T.refused("later(-1)", BAD, Edges::busy, x -> x.later(-1));
            T.refused("later(10000)", BAD, Edges::busy, x -> x.later(10000));
        });
    }

    private static void levelTime(PassingFrames x, int want) {
        int time = x.count(1);
        x.level();
        T.due("time of level()", x.count(1) - time, want);
    }

    private static void levelTimes() {
        T.test("28", "The time becomes the t1 of device 0, plus the time of wire 0, plus turn unless device 0 is the"
                + " only one of the A side.", () -> {
            levelTime(Edges.even(1), 4);
            levelTime(Edges.even(2), 9);
            levelTime(Edges.even(3), 14);
            levelTime(Edges.even(8), 39);
            levelTime(Edges.cut(Edges.even(8), 1), 4);
            levelTime(Edges.cut(Edges.even(8), 2), 9);
            levelTime(Edges.cut(Edges.even(8), 8), 39);
            levelTime(at(Edges.EIGHT, 1), 39);
            levelTime(at(Edges.EIGHT, 9999), 39);
            levelTime(Check.ring("d0140004;e909;"), 8);
            levelTime(Check.ring("d0140004;d0210004;e909;"), 8 + 2 + 9);
        });
        T.test("28", "for the last device of the A side t0 + pass", () -> {
            levelTime(Check.ring("d0110004;e909;"), 2);
            levelTime(Check.ring("d0110004;e999;"), 2 + 9);
            levelTime(Check.ring("d0110004;d0210004;e990;"), 4 + 2 * 9);
        });
        T.test("28", "for each other device i the t1 of device i + 1, plus the time of wire i + 1, plus turn unless"
                + " device i + 1 is the last one of the A side.", () -> {
            // the slow clock of device 0 loses 1 at time 26, and the frame is back there at 25 or 26
            delays(at("d0110000;d0210004;e109;", 22), 0, 1);
            delays(at("d0110000;d0210004;e109;", 23), 0, 0);
            // the fast clock of device 1 gains 1 at time 25, and the frame is back there at 24 or 25
            delays(at("d0110004;d0210008;d0310004;e109;", 20), 0, 1, 2);
            delays(at("d0110004;d0210008;d0310004;e109;", 21), 0, 0, 1);
        });
        T.test("28", "let t0 be the time at which the frame passes it (as in FRAMES), and t1 the time at which it comes"
                + " back", () -> {
            // the clock of device 1 gains 1 at time 25; the frame passes it 4 after the begin and is back 2 later
            delays(at("d0110004;d0210008;", 18), 0, 3);
            delays(at("d0110004;d0210008;", 19), 0, 2);
            delays(at("d0110004;d0210008;", 20), 0, 2);
            delays(at("d0110004;d0210008;", 21), 0, 3);
            // the clock of device 0 loses 1 at time 26; the frame passes it 1 after the begin and is back 6 later
            delays(at("d0110000;d0210004;", 18), 0, 3);
            delays(at("d0110000;d0210004;", 19), 0, 2);
            delays(at("d0110000;d0210004;", 24), 0, 2);
            delays(at("d0110000;d0210004;", 25), 0, 3);
        });
        T.test("28", "that passes the A side and is turned at its last device.", () -> {
            for (int n = 1; n <= 8; n++) {
                PassingFrames x = Edges.cut(Edges.even(8), n);
                T.due("level() of " + n + " of eight", x.level(), Edges.even(n).level());
                T.due("time of " + n + " of eight", x.count(1), 5 * n - 1);
            }
        });
        T.test("28", "by a frame (which is never lost and edits nothing)", () -> {
            PassingFrames x = Edges.even(4);
            x.put(0, 0, 9);
            x.gram(0, 8, 0, 4, 1);
            x.lose(9);
            x.level();
            T.due("count(7)", x.count(7), 9);
            T.due("memory(0, 4)", x.memory(0, 4), 0);
            T.due("delay", x.clock(3, 3), 9);
            T.due("nothing came home", x.home(0, -1), -4);
        });
    }

    /** Levels the clocks; the delays of the devices from 0 on are then these. */
    private static void delays(PassingFrames x, int... want) {
        x.level();
        int[] delays = new int[want.length];
        for (int d = 0; d < want.length; d++) {
            delays[d] = x.clock(d, 3);
        }
        T.row("delays", delays, want);
    }

    private static void levelDelays() {
        T.test("28", "The delay of device 0 becomes 0", () -> {
            delays(Edges.even(1), 0);
            delays(Check.ring("d0199998;d0210000;e999;"), 0);
        });
        T.test("28", "that of each further device i of the A side becomes the delay of device i - 1, plus pass", () -> {
            delays(Edges.even(8), 0, 3, 6, 9, 12, 15, 18, 21);
            delays(Check.ring("d0190004;d0210004;d0390004;e100;"), 0, 1, 10);
            delays(Check.ring("d0190004;d0210004;d0390004;e190;"), 0, 10, 28);
        });
        T.test("28", "and minus turn unless device i is the last one of the A side.", () -> {
            delays(Check.ring("d0110004;d0210004;e129;"), 0, 3);
            delays(Check.ring("d0110004;d0210004;d0310004;e129;"), 0, 3, 6);
            delays(Edges.cut(Check.ring("d0110004;d0210004;d0310004;e129;"), 2), 0, 3, 0);
            delays(Check.ring("d0110004;d0210004;d0310004;e120;"), 0, 3, 6);
        });
        T.test("28", "Synchronizes the clocks of the A side", () -> {
            PassingFrames x = Edges.cut(Check.ring("d0110004;d0210504;d0310504;d0410504;"), 2, 3);
            delays(x, 0, 3, 0, 0);
            T.row("offsets of the others", new int[] {x.clock(2, 2), x.clock(3, 2)}, ZERO, ZERO);
            x = Edges.even(3);
            x.level();
            delays(Edges.cut(x, 1), 0, 3, 6);
        });
    }

    private static void levelRounds() {
        T.test("28", "where w is the gap of device i - 1 minus the gap of device i minus pass", () -> {
            delays(Check.ring("d0110004;d0210004;e100;"), 0, 1);
            delays(Check.ring("d0110004;d0210004;e190;"), 0, 9 + 1);
            delays(Check.ring("d0110004;d0290004;e100;"), 0, 9);
            delays(Check.ring("d0110004;d0290004;e190;"), 0, 9 + 9);
        });
        T.test("28", "plus max(0, w) / 2 (rounded down)", () -> {
            // w is 2 and what the clock of device 0 gains and that of device 1 loses meanwhile
            delays(at("d0110008;d0210004;e100;", 23), 0, 1);
            delays(at("d0110000;d0210004;e100;", 22), 0, 1);
            delays(at("d0110000;d0210004;e100;", 24), 0, 0);
            delays(at("d0110000;d0210008;e120;", 19), 0, 2);
            delays(at("d0110000;d0210008;e120;", 23), 0, 2);
            delays(at("d0110000;d0210008;e120;", 10), 0, 3);
        });
        T.test("28", "max(0, w)", () -> {
            // gaps 54, 37 and 9: w is -1 and then 19
            delays(Check.ring("d0110000;d0210008;d0390004;e999;"), 0, 9, 27);
            // gaps 53, 37 and 9: w is -2
            delays(at("d0110000;d0210008;d0390004;e999;", 19), 0, 9, 27);
        });
        T.test("28", "Let the gap of a device be its own clock at t1 minus its own clock at t0.", () -> {
            // own clocks, not system clocks: an offset and a delay from before do not matter
            PassingFrames x = Edges.even(3);
            x.level();
            x.steer(99);
            delays(x, 0, 3, 6);
            T.row("offsets", new int[] {x.clock(1, 2), x.clock(2, 2)}, ZERO, ZERO);
        });
    }

    private static void levelOffsets() {
        T.test("28", "The offset of each device of the A side becomes the own clock of device 0 at its t0, plus the"
                + " delay of the device, minus the own clock of the device at its own t0.", () -> {
            offsets(Check.ring("d0199994;d0210004;"), 0, 999);
            offsets(Check.ring("d0110004;d0219994;"), 0, -999);
            offsets(Check.ring("d0110004;d0210004;"), 0, 0);
            offsets(Check.ring("d0110014;d0210004;d0310024;"), 0, 1, -1);
            offsets(at("d0110000;d0210008;e120;", 19), 0, 19 + 2 - 23);
            offsets(Check.ring("d0110000;d0210008;d0390004;e999;"), 0, 9 - 11, 27 - 29);
        });
    }

    private static void offsets(PassingFrames x, int... want) {
        x.level();
        for (int d = 0; d < want.length; d++) {
            T.due("offset of " + d, x.clock(d, 2) - ZERO, want[d]);
        }
    }

    private static void levelAnswers() {
        T.test("28", "Returns the delay of the last device of the A side", () -> {
            for (int n = 1; n <= 8; n++) {
                T.due("level() of " + n, Edges.even(n).level(), 3 * (n - 1));
                T.due("level() of " + n + " before a cut wire", Edges.cut(Edges.even(8), n).level(), 3 * (n - 1));
            }
        });
        T.test("28", "NO if the A side is empty.", () -> {
            T.refused("with wire 0 cut", NO, () -> Edges.cut(Edges.busy(), 0), PassingFrames::level);
            T.refused("with all wires cut", NO, () -> Edges.cut(Edges.even(1), 0, 1), PassingFrames::level);
            T.due("with wire 1 cut", Edges.cut(Edges.even(2), 1).level(), 0);
        });
    }

    /** Two devices whose deviation is this many: the first one begins ahead by that and by the way of the frame. */
    private static PassingFrames deviating(int deviation) {
        int first = Math.max(0, deviation + 3);
        int second = first - 3 - deviation;
        return Check.ring(String.format("d011%03d4;d021%03d4;", first, second));
    }

    private static void steerDeviations() {
        T.test("29", "let the deviation be the system clock of device 0 at the time at which the frame passes it, plus"
                + " the delay of the device, minus the system clock of the device", () -> {
            for (int deviation : new int[] {-996, -100, -99, -1, 0, 1, 99, 100, 996}) {
                T.due("steer(50) of " + deviation, deviating(deviation).steer(50), Math.abs(deviation));
            }
        });
        T.test("29", "at the time at which the frame passes it", () -> {
            // the clock of device 1 gains 1 at time 25 and the frame passes it 4 after the present time
            T.due("device 1 before its step", at("d0110004;d0210008;", 20).steer(9), 3);
            T.due("device 1 at its step", at("d0110004;d0210008;", 21).steer(9), 4);
            // the clock of device 0 loses 1 at time 26 and the frame passes it 1 after the present time
            T.due("device 0 before its step", at("d0110000;d0210004;", 24).steer(9), 4);
            T.due("device 0 at its step", at("d0110000;d0210004;", 25).steer(9), 5);
        });
        T.test("29", "plus the delay of the device", () -> {
            PassingFrames x = Edges.even(8);
            T.due("steer() without delays", x.steer(1), 21);
            x.level();
            T.due("steer() with delays", x.steer(1), 0);
        });
        T.test("29", "For each device of the A side but device 0", () -> {
            PassingFrames x = Edges.cut(Edges.even(8), 3);
            T.due("steer() of three", x.steer(99), 6);
            for (int d = 0; d < 8; d++) {
                T.due("offset of " + d, x.clock(d, 2) - ZERO, d < 3 ? -3 * d : 0);
            }
        });
        T.test("29", "(which is never lost and edits nothing)", () -> {
            PassingFrames x = Edges.even(4);
            x.put(0, 0, 9);
            x.gram(0, 8, 0, 4, 1);
            x.lose(9);
            T.due("steer()", x.steer(1), 9);
            T.due("count(7)", x.count(7), 9);
            T.due("memory(0, 4)", x.memory(0, 4), 0);
        });
    }

    private static void steered(int deviation, int step, int want) {
        PassingFrames x = deviating(deviation);
        x.steer(step);
        T.due("offset after steer(" + step + ") of " + deviation, x.clock(1, 2) - ZERO, want);
        T.due("offset of device 0", x.clock(0, 2), ZERO);
        T.due("delay stays", x.clock(1, 3), 0);
    }

    private static void steerSteps() {
        T.test("29", "The offset of the device changes by the deviation, but by at most step up or down.", () -> {
            for (int deviation : new int[] {-10, 10}) {
                int sign = deviation < 0 ? -1 : 1;
                steered(deviation, 1, sign);
                steered(deviation, 9, 9 * sign);
                steered(deviation, 10, deviation);
                steered(deviation, 11, deviation);
                steered(deviation, 99, deviation);
            }
            for (int deviation = -2; deviation <= 2; deviation++) {
                steered(deviation, 1, Math.max(-1, Math.min(1, deviation)));
                steered(deviation, 2, deviation);
            }
            for (int deviation = 98; deviation <= 100; deviation++) {
                steered(deviation, 99, Math.min(99, deviation));
                steered(-deviation, 99, -Math.min(99, deviation));
            }
        });
        T.test("29", "Then the time increases by the trip.", () -> {
            steerTime(Edges.even(2), 7);
            steerTime(Edges.even(8), 25);
            steerTime(at(Edges.EIGHT, 9999), 25);
            steerTime(Edges.cut(Edges.even(4), 2), 9);
            // the way of the A side takes 9, that of the B side 29
            steerTime(Edges.cut(Edges.even(8), 2), 29);
            steerTime(Edges.cut(Edges.even(8), 2, 8), 9);
        });
    }

    private static void steerTime(PassingFrames x, int want) {
        int time = x.count(1);
        x.steer(1);
        T.due("time of steer()", x.count(1) - time, want);
    }

    private static void steerAnswers() {
        T.test("29", "step: 1 to 99", () -> T.range("steer", 1, 99, Edges::busy, (x, step) -> x.steer(step)));
        T.test("29", "Returns the greatest absolute value of these deviations (before they are limited by"
                + " step)", () -> {
            T.due("10 by 1", deviating(10).steer(1), 10);
            T.due("-10 by 1", deviating(-10).steer(1), 10);
            T.due("0", deviating(0).steer(1), 0);
            T.due("5 and -20", Check.ring("d0110084;d0210004;d0310224;").steer(99), 20);
            T.due("20 and -5", Check.ring("d0110234;d0210004;d0310224;").steer(99), 20);
            T.due("-5 and 20", Check.ring("d0110264;d0210284;d0310004;").steer(99), 20);
            PassingFrames x = deviating(10);
            x.steer(4);
            T.due("what is left", x.steer(4), 6);
            T.due("what is left then", x.steer(4), 2);
            T.due("nothing is left", x.steer(4), 0);
        });
        T.test("29", "BAD if step is out of range", () -> {
            T.refused("steer(0)", BAD, Edges::busy, x -> x.steer(0));
            T.refused("steer(100)", BAD, Edges::busy, x -> x.steer(100));
            T.refused("steer(-1)", BAD, Edges::busy, x -> x.steer(-1));
            T.refused("steer(0) of one device", BAD, () -> Edges.even(1), x -> x.steer(0));
            T.refused("steer(100) of no A side", BAD, () -> Edges.cut(Edges.even(2), 0), x -> x.steer(100));
        });
        T.test("29", "NO if the A side has fewer than two devices.", () -> {
            T.refused("a ring of one", NO, () -> Edges.even(1), x -> x.steer(5));
            T.refused("an A side of one", NO, () -> Edges.cut(Edges.even(8), 1), x -> x.steer(5));
            T.refused("no A side", NO, () -> Edges.cut(Edges.busy(), 0), x -> x.steer(5));
            T.due("an A side of two", Edges.cut(Edges.even(8), 2).steer(5), 3);
            T.due("a ring of two", Edges.even(2).steer(5), 3);
        });
    }

    private static int[] clocks(PassingFrames x, int d) {
        return new int[] {x.clock(d, 0), x.clock(d, 1), x.clock(d, 2), x.clock(d, 3)};
    }

    private static void clock() {
        T.test("30", "d: a device", () -> T.range("clock", 0, 3, Edges::busy, (x, d) -> x.clock(d, 0)));
        T.test("30", "what: 0 own clock plus ZERO, 1 system clock plus ZERO, 2 offset plus ZERO, 3 delay", () -> {
            T.range("clock", 0, 3, Edges::busy, (x, what) -> x.clock(0, what));
            T.due("ZERO", PassingFrames.ZERO, ZERO);
            PassingFrames x = Check.ring("d0110004;d0219994;");
            T.row("at first", clocks(x, 1), ZERO + 999, ZERO + 999, ZERO, 0);
            x.level();
            T.row("with a negative offset", clocks(x, 1), ZERO + 1008, ZERO + 9, ZERO - 999, 3);
            T.row("the first device", clocks(x, 0), ZERO + 9, ZERO + 9, ZERO, 0);
            x = Check.ring("d0119994;d0210004;");
            x.level();
            T.row("with a positive offset", clocks(x, 1), ZERO + 9, ZERO + 1008, ZERO + 999, 3);
        });
        T.test("30", "Returns a clock value of a device at the present time.", () -> {
            PassingFrames x = Check.ring("d0110005;");
            x.later(99);
            T.due("at 99", x.clock(0, 0), ZERO + 99);
            x.later(1);
            T.due("at 100", x.clock(0, 0), ZERO + 101);
            x.later(1);
            T.due("at 101", x.clock(0, 1), ZERO + 102);
        });
        T.test("30", "BAD if there is no such device or what is not 0 to 3.", () -> {
            T.refused("clock(-1, 0)", BAD, Edges::busy, x -> x.clock(-1, 0));
            T.refused("clock(4, 0)", BAD, Edges::busy, x -> x.clock(4, 0));
            T.refused("clock(0, -1)", BAD, Edges::busy, x -> x.clock(0, -1));
            T.refused("clock(0, 4)", BAD, Edges::busy, x -> x.clock(0, 4));
        });
    }

    private static void apart() {
        T.test("31", "Returns the difference between the greatest and the smallest system clock of all devices", () -> {
            T.due("of one device", Edges.even(1).apart(), 0);
            T.due("of eight alike", Edges.even(8).apart(), 0);
            T.due("of 0 and 1", Check.ring("d0110004;d0210014;").apart(), 1);
            T.due("of 999 and 0", Check.ring("d0119994;d0210004;").apart(), 999);
            T.due("of 0 and 999", Check.ring("d0110004;d0219994;").apart(), 999);
            T.due("of 500, 999 and 1", Check.ring("d0115004;d0219994;d0310014;").apart(), 998);
            PassingFrames x = Check.ring("d0110004;d0219994;");
            x.level();
            T.due("system clocks, not own ones", x.apart(), 0);
        });
        T.test("31", "of all devices", () -> {
            PassingFrames x = Edges.cut(Check.ring("d0110004;d0219994;d0310004;"), 1, 2);
            T.due("one on no side", x.apart(), 999);
            Edges.cut(x, 0, 3);
            T.due("all on no side", x.apart(), 999);
        });
        T.test("31", "at the present time.", () -> {
            PassingFrames x = Check.ring("d0110000;d0210008;");
            T.due("at 0", x.apart(), 0);
            x.later(1);
            T.due("at 1", x.apart(), 1);
            x.later(23);
            T.due("at 24", x.apart(), 1);
            x.later(1);
            T.due("at 25", x.apart(), 2);
            x.later(1);
            T.due("at 26", x.apart(), 3);
        });
    }

    private static void count() {
        T.test("32", "what: 0 number of devices, 1 the time, 2 number of cut wires", () ->
            T.range("count", 0, 12, Edges::busy, (x, what) -> x.count(what)));
        T.test("32", "BAD if what is not 0 to 12.", () -> {
            T.refused("count(-1)", BAD, Edges::busy, x -> x.count(-1));
            T.refused("count(13)", BAD, Edges::busy, x -> x.count(13));
        });
        T.test("32", "3 number of devices of the A side, 4 of the B side", () -> {
            for (int w = 0; w <= 8; w++) {
                PassingFrames x = Edges.cut(Edges.even(8), w);
                T.row("sides with wire " + w + " cut", new int[] {x.count(3), x.count(4)}, w, 8 - w);
            }
            T.row("sides without", new int[] {Edges.even(8).count(3), Edges.even(8).count(4)}, 8, 0);
        });
        T.test("32", "5 number of datagrams that came home short, 6 how many different datagrams are"
                + " remembered", () -> {
            PassingFrames x = Edges.even(4);
            for (int i = 0; i <= 3; i++) {
                x.gram(i, 7, 0, 0, 1 + i);
            }
            T.row("at first", new int[] {x.count(5), x.count(6)}, 0, 0);
            x.send();
            T.row("after the first frame", new int[] {x.count(5), x.count(6)}, 0, 4);
            Edges.cut(x, 0, 4);
            x.send();
            T.row("after a frame to nobody", new int[] {x.count(5), x.count(6)}, 4, 4);
            for (int i = 0; i <= 3; i++) {
                x.gram(i, 7, 0, 0, 5 + i);
            }
            x.send();
            T.row("after four new ones", new int[] {x.count(5), x.count(6)}, 4, 6);
        });
    }

    private static void countAtItsEnds() {
        T.test("32", "0 number of devices, 1 the time, 2 number of cut wires,", () -> {
            PassingFrames x = Edges.even(1);
            T.row("one device", new int[] {x.count(0), x.count(1), x.count(2)}, 1, 0, 0);
            x = Edges.cut(Edges.even(8), 0, 1, 2, 3, 4, 5, 6, 7, 8);
            x.later(1);
            T.row("eight devices", new int[] {x.count(0), x.count(1), x.count(2)}, 8, 1, 9);
        });
        T.test("32", "7 how many frames are still to be lost, 8 length of the text", () -> {
            PassingFrames x = new PassingFrames();
            T.row("at first", new int[] {x.count(7), x.count(8)}, 0, 0);
            x.lose(9);
            Check.write(x, "e".repeat(201));
            T.row("the greatest", new int[] {x.count(7), x.count(8)}, 9, 200);
            x.lose(0);
            x.wipe();
            T.row("the least", new int[] {x.count(7), x.count(8)}, 0, 0);
        });
        T.test("32", "9 time of the last wire, 10 pass, 11 turn, 12 the trip of a frame now", () -> {
            PassingFrames x = Check.ring("d0110004;e100;");
            T.row("the least", new int[] {x.count(9), x.count(10), x.count(11), x.count(12)}, 1, 0, 0, 2);
            x = Check.ring("d0190004;e999;");
            T.row("the greatest", new int[] {x.count(9), x.count(10), x.count(11), x.count(12)}, 9, 9, 9, 27);
            x.cut(0, 1);
            T.due("with wire 0 cut", x.count(12), 27);
            x.cut(1, 1);
            T.due("with both wires cut", x.count(12), 0);
        });
    }

    private static void lastCall() {
        T.test("What it is", "An object is used for at most 512 calls after it has been made", () -> {
            T.due("time", afterCalls(511).count(1), 511 * 9999);
            T.due("the clock of rate 5", afterCalls(511).clock(0, 0), ZERO + 5109489 + 51094);
            T.due("the clock of rate 3", afterCalls(511).clock(2, 0), ZERO + 100 + 5109489 - 51095);
            T.due("later(9999)", afterCalls(511).later(9999), 512 * 9999);
            T.due("level()", afterCalls(511).level(), 20);
            T.due("lose(9)", afterCalls(511).lose(9), 0);
            PassingFrames x = new PassingFrames();
            for (int i = 0; i < 511; i++) {
                x.cut(0, 1 - i % 2);
            }
            T.due("cut(0, 0) as the last call", x.cut(0, 0), 0);
        });
    }

    private static PassingFrames afterCalls(int calls) {
        PassingFrames x = new PassingFrames();
        for (int i = 0; i < calls; i++) {
            x.later(9999);
        }
        return x;
    }
}
