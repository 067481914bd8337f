/** Promises 27 to 32: the time, the clocks and the counts. */
public final class ClockTest {
    private static final int BAD = -1, NO = -2, ZERO = 100000000;
    private static final Check CHECK = new Check("ClockTest");

    public static void main(String[] args) {
        later();
        ownClocks();
        levelOfEvenClocks();
        levelOfUnevenClocks();
        levelOfOneSide();
        levelRoundsAndNeverShrinks();
        steer();
        steerSteps();
        steerSides();
        clock();
        apart();
        count();
        CHECK.finish();
    }

    private static void due(String call, int got, int want) {
        CHECK.due(call, got, want);
    }

    private static void later() {
        PassingFrames x = new PassingFrames();
        due("later(0)", x.later(0), BAD);
        due("later(-1)", x.later(-1), BAD);
        due("later(10000)", x.later(10000), BAD);
        due("later(1)", x.later(1), 1);
        due("later(9999)", x.later(9999), 10000);
        due("count(1)", x.count(1), 10000);
    }

    private static void ownClocks() {
        for (int rate = 0; rate <= 8; rate++) {
            PassingFrames x = Check.ring("d011700" + rate + ";");
            int[] steps = {1, 23, 1, 24, 1, 24, 1, 24, 1, 9900, 9999};
            int time = 0;
            for (int step : steps) {
                time += step;
                x.later(step);
                int drift = Math.floorDiv(time * (rate - 4), 100);
                due("own clock at " + time + " with rate " + rate, x.clock(0, 0), ZERO + 700 + time + drift);
            }
        }
    }

    private static void levelOfEvenClocks() {
        PassingFrames x = Check.ring("d0120004;d0230504;d0349004;e576;");
        due("level()", x.level(), 3 + 4 + 2 * 7);
        due("delay of 0", x.clock(0, 3), 0);
        due("delay of 1", x.clock(1, 3), 3 + 7);
        due("delay of 2", x.clock(2, 3), 3 + 4 + 2 * 7);
        due("offset of 0", x.clock(0, 2), ZERO);
        due("offset of 1", x.clock(1, 2), ZERO - 50);
        due("offset of 2", x.clock(2, 2), ZERO - 900);
        due("apart()", x.apart(), 0);
        due("the time", x.count(1), 2 * 9 + 3 * 7 + 2 * 6);
        x.lose(1);
        x.put(0, 0, 9);
        x.gram(0, 8, 0, 4, 1);
        x.level();
        due("it is never lost", x.count(7), 1);
        due("it edits nothing", x.memory(0, 4), 0);
        due("the time", x.count(1), 2 * (2 * 9 + 3 * 7 + 2 * 6));
    }

    private static void levelOfUnevenClocks() {
        // at time 96 the frame passes device 0 at 99 and is back at 105: its own clock steps from 99 to 106
        PassingFrames x = Check.ring("d0130005;d0210000;e120;");
        x.later(96);
        due("level()", x.level(), 2 + 1);
        // t0: 99, 102; t1: 104 + 1, 104; own clocks of device 1 at these: 102 - 5, 104 - 5
        due("delay", x.clock(1, 3), 3);
        due("offset of 1", x.clock(1, 2), ZERO + 99 + 3 - 97);
        due("time", x.count(1), 108);
    }

    private static void levelOfOneSide() {
        PassingFrames x = new PassingFrames();
        x.cut(0, 1);
        due("level() without an A side", x.level(), NO);
        due("no time passed", x.count(1), 0);
        x.cut(0, 0);
        x.cut(1, 1);
        due("level() of one device", x.level(), 0);
        due("it is not turned at", x.count(1), 3 + 3 + 3);
        due("offset of it", x.clock(0, 2), ZERO);
        due("others keep their offset", x.clock(1, 2), ZERO);
        x.cut(1, 0);
        x.cut(2, 1);
        due("level() of two devices", x.level(), 8);
        due("time", x.count(1), 9 + 2 * 8 + 2 * 3 + 2);
        x.cut(2, 0);
        due("level() of all", x.level(), 20);
        x.cut(2, 1);
        int offset = x.clock(2, 2);
        x.later(1000);
        x.level();
        due("delay on the B side stays", x.clock(2, 3), 15);
        due("offset on the B side stays", x.clock(2, 2), offset);
    }

    private static void levelRoundsAndNeverShrinks() {
        // the gap of device 0 steps over one more: (2 * 1 + 1) / 2 is still 1
        PassingFrames x = Check.ring("d0110008;d0210004;e100;");
        x.later(23);
        // t0: 24, 25; t1: 26, 25; own clock of 0 steps at 25: gap 3; gap of 1 is 0
        due("level()", x.level(), 1);
        // slow clock: the gap of device 0 is one less, device 1's stays
        x = Check.ring("d0110000;d0290004;e109;");
        x.later(19);
        due("level() of a slow clock", x.level(), 8);
        // a slow device before a fast one makes the difference negative: gaps 227 and 225, pass and turn 9
        x = Check.ring("d0110000;d0210008;d0390004;d0490004;d0590004;d0690004;d0790004;d0890004;e999;");
        x.later(13);
        due("level()", x.level(), 9 + (9 + 13) + 5 * (9 + 9));
        due("delay of 1", x.clock(1, 3), 9);
        due("delay of 2", x.clock(2, 3), 9 + 9 + 13);
    }

    private static void steer() {
        PassingFrames x = Check.ring("d0120004;d0230504;d0340104;e576;");
        due("steer(0)", x.steer(0), BAD);
        due("steer(100)", x.steer(100), BAD);
        due("steer(-1)", x.steer(-1), BAD);
        due("no time passed", x.count(1), 0);
        // delays are 0: the frame passes at 2, 12 and 23 with 50 and 10 more
        due("steer(99)", x.steer(99), 60);
        due("offset of 0", x.clock(0, 2), ZERO);
        due("offset of 1", x.clock(1, 2), ZERO - 60);
        due("offset of 2", x.clock(2, 2), ZERO - 31);
        due("time", x.count(1), 2 + 3 + 4 + 5 + 3 * 7);
        due("steer(99) again", x.steer(99), 0);
        x.lose(1);
        x.put(0, 0, 9);
        x.gram(0, 8, 0, 4, 1);
        x.steer(1);
        due("it is never lost", x.count(7), 1);
        due("it edits nothing", x.memory(0, 4), 0);
    }

    private static void steerSteps() {
        PassingFrames x = Check.ring("d0110504;d0210004;d0311004;e100;");
        x.level();
        due("level sets the clocks", x.apart(), 0);
        x = Check.ring("d0110504;d0210004;d0311004;e100;");
        // at 1, 2 and 3: 51 against 2 and 103
        due("steer(7)", x.steer(7), 52);
        due("up by 7", x.clock(1, 2), ZERO + 7);
        due("down by 7", x.clock(2, 2), ZERO - 7);
        due("steer(42)", x.steer(42), 45);
        due("up by all that is left", x.clock(1, 2), ZERO + 49);
        due("down by 42", x.clock(2, 2), ZERO - 49);
        due("steer(1)", x.steer(1), 3);
        due("no change", x.clock(1, 2), ZERO + 49);
        due("down by 1", x.clock(2, 2), ZERO - 50);
        due("delays stay", x.clock(2, 3), 0);
    }

    private static void steerSides() {
        PassingFrames x = new PassingFrames();
        x.cut(1, 1);
        due("steer(5) of one device", x.steer(5), NO);
        due("steer(0) is bad before", x.steer(0), BAD);
        x.cut(0, 1);
        due("steer(5) of none", x.steer(5), NO);
        due("no time passed", x.count(1), 0);
        x.cut(0, 0);
        x.cut(1, 0);
        x.cut(2, 1);
        // device 0 passes at 3 with 3, device 1 at 11 with 31
        due("steer(5) of two", x.steer(5), 28);
        due("the time of the whole trip", x.count(1), 24);
        due("offset of 1", x.clock(1, 2), ZERO - 5);
        due("offset of 2, which is on the B side", x.clock(2, 2), ZERO);
        x.level();
        // the delay of 1 is 8: it is on time
        due("steer(5) after level()", x.steer(5), 0);
        x.later(9000);
        due("time", x.count(1), 24 + 24 + 24 + 9000);
        // the frame passes device 0 at 9075 with 90 more, and device 1 at 9083 with its 20 more taken off
        due("offset of 1", x.clock(1, 2), ZERO - 20);
        due("device 0 runs ahead", x.steer(5), 9075 + 90 + 8 - 9083);
    }

    private static void clock() {
        PassingFrames x = new PassingFrames();
        due("clock(-1, 0)", x.clock(-1, 0), BAD);
        due("clock(4, 0)", x.clock(4, 0), BAD);
        due("clock(0, -1)", x.clock(0, -1), BAD);
        due("clock(0, 4)", x.clock(0, 4), BAD);
        due("clock(2, 0)", x.clock(2, 0), ZERO + 100);
        due("clock(2, 1)", x.clock(2, 1), ZERO + 100);
        due("clock(2, 2)", x.clock(2, 2), ZERO);
        due("clock(2, 3)", x.clock(2, 3), 0);
        x.level();
        // the frame passes device 2 at 18 with 100 + 18 - 1; device 0 had 3 at 3, and the delay is 15
        due("clock(2, 3) then", x.clock(2, 3), 15);
        due("clock(2, 2) then", x.clock(2, 2), ZERO + 3 + 15 - 117);
        due("clock(2, 0) then", x.clock(2, 0), ZERO + 100 + 46 - 1);
        due("clock(2, 1) then", x.clock(2, 1), ZERO + 46);
    }

    private static void apart() {
        PassingFrames x = new PassingFrames();
        due("apart()", x.apart(), 100);
        x.cut(0, 1);
        x.cut(4, 1);
        due("apart() counts those on no side too", x.apart(), 100);
        x.later(9999);
        // 9999 + 99, 9999 + 20, 9999 + 100 - 100, 9999 + 50
        due("apart() later", x.apart(), 99);
        due("apart() of one device", Check.ring("d0110000;").apart(), 0);
        due("greatest first", Check.ring("d0119994;d0211004;d0312004;").apart(), 899);
        due("smallest first", Check.ring("d0110104;d0211004;d0312004;").apart(), 190);
    }

    private static void count() {
        PassingFrames x = Check.ring("d0120004;d0230504;d0340104;e576;");
        due("count(-1)", x.count(-1), BAD);
        due("count(13)", x.count(13), BAD);
        due("count(8) of a text", Check.write(x, "abc"), x.count(8));
        x.later(7);
        x.cut(1, 1);
        x.lose(3);
        int[] wants = {3, 7, 1, 1, 2, 0, 0, 3, 3, 5, 7, 6, 2 * 9 + 2 * 7 + 6};
        for (int what = 0; what < wants.length; what++) {
            due("count(" + what + ")", x.count(what), wants[what]);
        }
        x.lose(0);
        x.gram(0, 7, 0, 0, 1);
        x.gram(1, 4, 1, 0, 1);
        x.send();
        x.cut(2, 1);
        x.send();
        due("count(5)", x.count(5), 1);
        due("count(6)", x.count(6), 2);
        due("count(2)", x.count(2), 2);
    }
}
