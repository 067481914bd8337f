/** The sentences of the promises 12 to 14, and of FRAMES about the map, that name a boundary. */
public final class EdgesOfMapsTest {
    private static final int BAD = -1, NO = -2, NONE = -4;
    private static final int READ = 10, WRITE = 11, BOTH = 12;
    private static final int INIT = 0, PREP = 1, SAFE = 2, RUN = 3;
    private static final Edges T = new Edges("EdgesOfMapsTest");

    public static void main(String[] args) {
        mapArguments();
        mapAnswers();
        mapOfAnother();
        unmap();
        mapped();
        places();
        whoIsRead();
        whatIsRead();
        whoIsWritten();
        whatIsWritten();
        both();
        T.finish();
    }

    private static void map(PassingFrames x, int d, int i, int place, int n, int b, int want) {
        T.due("map(" + d + ", " + i + ", " + place + ", " + n + ", " + b + ")", x.map(d, i, place, n, b), want);
    }

    private static void mapArguments() {
        T.test("12", "d: a device", () -> {
            T.range("map of four", 0, 3, PassingFrames::new, (x, d) -> x.map(d, 0, 0, 1, 0));
            T.range("map of one", 0, 0, () -> Edges.even(1), (x, d) -> x.map(d, 1, 0, 1, 4));
            T.range("map of eight", 0, 7, () -> Edges.even(8), (x, d) -> x.map(d, 1, 0, 1, 4));
        });
        T.test("12", "i: 0 for its read map, 1 for its write map", () ->
            T.range("map", 0, 1, Edges::busy, (x, i) -> x.map(3, i, 20, 1, 4)));
        T.test("12", "place: the first place of the map, 0 to 31", () ->
            T.range("map", 0, 31, PassingFrames::new, (x, place) -> x.map(0, 0, place, 1, 0)));
        T.test("12", "n: the number of places, 1 to 8", () -> {
            T.range("read map", 1, 8, Edges::busy, (x, n) -> x.map(3, 0, 20, n, 0));
            T.range("write map", 1, 8, Edges::busy, (x, n) -> x.map(3, 1, 20, n, 4));
        });
        T.test("12", "place + n is at most 32", () -> {
            T.range("map of one place", 0, 31, PassingFrames::new, (x, place) -> x.map(0, 0, place, 1, 0));
            T.range("map of two places", 0, 30, PassingFrames::new, (x, place) -> x.map(0, 0, place, 2, 0));
            T.range("map of seven places", 0, 25, PassingFrames::new, (x, place) -> x.map(0, 1, place, 7, 4));
            T.range("map of eight places", 0, 24, PassingFrames::new, (x, place) -> x.map(0, 1, place, 8, 4));
            T.range("map from 31 on", 1, 1, PassingFrames::new, (x, n) -> x.map(0, 0, 31, n, 0));
            T.range("map from 25 on", 1, 7, PassingFrames::new, (x, n) -> x.map(0, 0, 25, n, 0));
        });
        T.test("12", "b: the first byte of the device, 0 to 15 (4 to 15 for a write map)", () -> {
            T.range("read map", 0, 15, Edges::busy, (x, b) -> x.map(3, 0, 20, 1, b));
            T.range("write map", 4, 15, Edges::busy, (x, b) -> x.map(3, 1, 20, 1, b));
        });
        T.test("12", "b + n is at most 16", () -> {
            T.range("read map of two bytes", 0, 14, PassingFrames::new, (x, b) -> x.map(0, 0, 0, 2, b));
            T.range("read map of eight bytes", 0, 8, PassingFrames::new, (x, b) -> x.map(0, 0, 0, 8, b));
            T.range("write map of two bytes", 4, 14, PassingFrames::new, (x, b) -> x.map(0, 1, 0, 2, b));
            T.range("write map of eight bytes", 4, 8, PassingFrames::new, (x, b) -> x.map(0, 1, 0, 8, b));
            T.range("read map from byte 9 on", 1, 7, PassingFrames::new, (x, n) -> x.map(0, 0, 0, n, 9));
            T.range("write map from byte 15 on", 1, 1, PassingFrames::new, (x, n) -> x.map(0, 1, 0, n, 15));
        });
    }

    private static void mapAnswers() {
        T.test("12", "Returns 1 if it had such a map, 0 if not", () -> {
            PassingFrames x = new PassingFrames();
            map(x, 0, 0, 5, 1, 4, 0);
            map(x, 0, 0, 5, 1, 4, 1);
            map(x, 0, 1, 5, 1, 4, 0);
            map(x, 0, 1, 31, 1, 15, 1);
            map(x, 1, 0, 6, 1, 4, 0);
            x.unmap(0, 0);
            map(x, 0, 0, 5, 1, 4, 0);
        });
        T.test("12", "Sets a map of a device, in place of the one that it had.", () -> {
            PassingFrames x = new PassingFrames();
            map(x, 0, 0, 8, 4, 0, 0);
            map(x, 0, 0, 9, 4, 1, 1);
            T.row("the map then", mapOf(x, 0, 0), 9, 4, 1);
            T.row("the other sort", mapOf(x, 0, 1), NONE, NONE, NONE);
            map(x, 1, 0, 8, 1, 0, 0);
            map(x, 2, 0, 12, 1, 0, NO);
            map(x, 2, 0, 13, 1, 0, 0);
        });
        T.test("12", "BAD if an argument is out of range", () -> {
            T.refused("map(4, ..)", BAD, Edges::busy, x -> x.map(4, 0, 20, 1, 4));
            T.refused("map(0, 2, ..)", BAD, Edges::busy, x -> x.map(0, 2, 20, 1, 4));
            T.refused("map(0, 0, 32, ..)", BAD, Edges::busy, x -> x.map(0, 0, 32, 1, 4));
            T.refused("map of no places", BAD, Edges::busy, x -> x.map(0, 0, 20, 0, 4));
            T.refused("a map whose sum goes round", BAD, Edges::busy, x -> x.map(0, 0, 31, Integer.MAX_VALUE, 4));
            T.refused("over places of another", BAD, Edges::busy, x -> x.map(3, 0, 4, 1, 16));
        });
    }

    private static int[] mapOf(PassingFrames x, int d, int i) {
        return new int[] {x.mapped(d, i, 0), x.mapped(d, i, 1), x.mapped(d, i, 2)};
    }

    private static void mapOfAnother() {
        T.test("12", "NO if the same sort of map of another device lies over one of these places.", () -> {
            for (int sort = 0; sort <= 1; sort++) {
                besides(sort);
            }
        });
        T.test("12", "the same sort of map", () -> {
            PassingFrames x = mappedAt(0, 10, 4);
            map(x, 0, 1, 10, 4, 4, 0);
            map(x, 2, 1, 13, 1, 4, NO);
            map(x, 2, 1, 14, 1, 4, 0);
        });
        T.test("12", "of another device", () -> {
            PassingFrames x = mappedAt(0, 10, 4);
            map(x, 1, 0, 12, 4, 0, 1);
            map(x, 1, 0, 12, 1, 0, 1);
            map(x, 0, 0, 12, 1, 0, NO);
            Edges.cut(x, 0, 4);
            map(x, 0, 0, 12, 1, 0, NO);
            map(x, 0, 0, 13, 1, 0, 1);
        });
    }

    /** Device 1 has a map of some places. */
    private static PassingFrames mappedAt(int sort, int place, int n) {
        PassingFrames x = new PassingFrames();
        x.map(1, sort, place, n, 4);
        x.map(0, sort, 20, 2, 6);
        return x;
    }

    /** Maps of another device beside places 10 to 13, over their ends, within them and around them. */
    private static void besides(int sort) {
        int[][] free = {{9, 1}, {6, 4}, {2, 8}, {14, 1}, {14, 6}};
        int[][] taken = {{10, 1}, {13, 1}, {11, 2}, {10, 4}, {9, 2}, {7, 4}, {3, 8}, {13, 2}, {13, 7}, {9, 6}, {8, 8}};
        for (int[] f : free) {
            map(mappedAt(sort, 10, 4), 0, sort, f[0], f[1], 4, 1);
        }
        for (int[] t : taken) {
            String call = "map of " + t[1] + " places from " + t[0] + " on";
            T.refused(call, NO, () -> mappedAt(sort, 10, 4), x -> x.map(0, sort, t[0], t[1], 4));
        }
        T.refused("map at place 0", NO, () -> mappedAt(sort, 0, 1), x -> x.map(0, sort, 0, 1, 4));
        T.refused("map at place 31", NO, () -> mappedAt(sort, 31, 1), x -> x.map(0, sort, 31, 1, 4));
        map(mappedAt(sort, 0, 1), 0, sort, 1, 1, 4, 1);
        map(mappedAt(sort, 31, 1), 0, sort, 30, 1, 4, 1);
    }

    private static void unmap() {
        T.test("13", "d: a device", () -> T.range("unmap", 0, 3, Edges::busy, (x, d) -> x.unmap(d, 0)));
        T.test("13", "i: 0 for its read map, 1 for its write map", () ->
            T.range("unmap", 0, 1, Edges::busy, (x, i) -> x.unmap(0, i)));
        T.test("13", "Returns 1", () -> {
            PassingFrames x = Edges.busy();
            T.due("unmap(0, 0)", x.unmap(0, 0), 1);
            T.due("unmap(0, 1)", x.unmap(0, 1), 1);
            T.row("read map", mapOf(x, 0, 0), NONE, NONE, NONE);
            T.row("write map", mapOf(x, 0, 1), NONE, NONE, NONE);
            T.row("read map of another", mapOf(x, 1, 0), 4, 8, 4);
        });
        T.test("13", "Removes a map of a device.", () -> {
            PassingFrames x = mappedAt(0, 10, 4);
            map(x, 2, 0, 13, 1, 0, NO);
            x.unmap(1, 0);
            map(x, 2, 0, 13, 1, 0, 0);
        });
        T.test("13", "BAD if an argument is out of range", () -> {
            T.refused("unmap(4, 0)", BAD, Edges::busy, x -> x.unmap(4, 0));
            T.refused("unmap(0, 2)", BAD, Edges::busy, x -> x.unmap(0, 2));
            T.refused("unmap(3, -1), which has none", BAD, Edges::busy, x -> x.unmap(3, -1));
        });
        T.test("13", "NO if it has no such map.", () -> {
            T.refused("at first", NO, PassingFrames::new, x -> x.unmap(0, 0));
            T.refused("with a read map alone", NO, Edges::busy, x -> x.unmap(1, 1));
            T.refused("with a write map alone", NO, Edges::busy, x -> x.unmap(2, 0));
            PassingFrames x = mappedAt(0, 10, 4);
            T.due("once", x.unmap(1, 0), 1);
            T.due("twice", x.unmap(1, 0), NO);
        });
    }

    private static void mapped() {
        T.test("14", "d: a device", () -> T.range("mapped", 0, 3, Edges::busy, (x, d) -> x.mapped(d, 0, 0)));
        T.test("14", "i: 0 for its read map, 1 for its write map", () ->
            T.range("mapped", 0, 1, Edges::busy, (x, i) -> x.mapped(0, i, 0)));
        T.test("14", "what: 0 the first place, 1 the number of places, 2 the first byte", () -> {
            T.range("mapped", 0, 2, Edges::busy, (x, what) -> x.mapped(0, 0, what));
            PassingFrames x = new PassingFrames();
            x.map(0, 0, 31, 1, 15);
            T.row("one place", mapOf(x, 0, 0), 31, 1, 15);
            x.map(0, 0, 0, 8, 0);
            T.row("eight places", mapOf(x, 0, 0), 0, 8, 0);
            x.map(0, 1, 24, 8, 8);
            T.row("the last eight places", mapOf(x, 0, 1), 24, 8, 8);
            x.map(0, 1, 0, 1, 4);
            T.row("the first place", mapOf(x, 0, 1), 0, 1, 4);
        });
        T.test("14", "BAD if an argument is out of range", () -> {
            T.refused("mapped(4, 0, 0)", BAD, Edges::busy, x -> x.mapped(4, 0, 0));
            T.refused("mapped(0, 2, 0)", BAD, Edges::busy, x -> x.mapped(0, 2, 0));
            T.refused("mapped(3, 0, 3), which has none", BAD, Edges::busy, x -> x.mapped(3, 0, 3));
            T.refused("mapped(3, 0, -1), which has none", BAD, Edges::busy, x -> x.mapped(3, 0, -1));
        });
        T.test("14", "NONE if it has no such map.", () -> {
            T.refused("at first", NONE, PassingFrames::new, x -> x.mapped(0, 0, 0));
            T.refused("with a read map alone", NONE, Edges::busy, x -> x.mapped(1, 1, 1));
            T.refused("with a write map alone", NONE, Edges::busy, x -> x.mapped(2, 0, 2));
        });
    }

    /** A ring of one device in a state, without a map, whose bytes 4 to 15 are 104 to 115. */
    private static PassingFrames single(int state) {
        PassingFrames x = Edges.even(1);
        Check.enter(x, 0, state);
        for (int b = 4; b <= 15; b++) {
            x.own(0, b, 100 + b);
        }
        for (int k = 0; k < 8; k++) {
            x.put(0, k, 10 + k);
        }
        return x;
    }

    /** What a command at places of the map counts with one device. */
    private static int counted(PassingFrames x, int command, int address, int n) {
        x.gram(0, command, address, 0, n);
        return x.send();
    }

    private static int[] bytesHome(PassingFrames x, int n) {
        int[] bytes = new int[n];
        for (int k = 0; k < n; k++) {
            bytes[k] = x.home(0, k);
        }
        return bytes;
    }

    private static int[] freeBytes(PassingFrames x, int d) {
        int[] bytes = new int[12];
        for (int b = 4; b <= 15; b++) {
            bytes[b - 4] = x.memory(d, b);
        }
        return bytes;
    }

    private static void places() {
        T.test("FRAMES", "and 10 READ, 11 WRITE, 12 BOTH by the map.", () -> {
            int[] counters = {1, 1, 3};
            for (int command = READ; command <= BOTH; command++) {
                PassingFrames x = single(RUN);
                x.map(0, 0, 0, 1, 4);
                x.map(0, 1, 0, 1, 5);
                T.due("command " + command, counted(x, command, 0, 1), counters[command - READ]);
                T.due("read by " + command, x.home(0, 0), command == WRITE ? 10 : 104);
                T.due("written by " + command, x.memory(0, 5), command == READ ? 105 : 10);
            }
            T.due("command 13", single(RUN).gram(0, 13, 0, 0, 1), BAD);
        });
        T.test("FRAMES", "For the commands 10 to 12 there is a map with the places 0 to 31.", () -> {
            for (int place : new int[] {0, 1, 30, 31}) {
                PassingFrames x = single(RUN);
                x.map(0, 0, place, 1, 15);
                x.map(0, 1, place, 1, 15);
                T.due("BOTH at place " + place, counted(x, BOTH, place, 1), 3);
                T.due("read at place " + place, x.home(0, 0), 115);
                T.due("written at place " + place, x.memory(0, 15), 10);
            }
        });
        T.test("FRAMES", "A device may have a read map and a write map (none at first)", () -> {
            for (int command = READ; command <= BOTH; command++) {
                for (int address = 0; address <= 24; address += 8) {
                    T.due("command " + command + " at first", counted(single(RUN), command, address, 8), 0);
                }
            }
        });
        T.test("FRAMES", "a number of its bytes, from one on, lie over as many places of the map, from one on", () -> {
            PassingFrames x = single(RUN);
            x.map(0, 0, 10, 3, 13);
            counted(x, READ, 8, 8);
            T.row("bytes 13 to 15", bytesHome(x, 8), 10, 11, 113, 114, 115, 15, 16, 17);
            x.map(0, 0, 10, 1, 0);
            counted(x, READ, 9, 3);
            T.row("byte 0", bytesHome(x, 3), 10, 1, 12);
        });
        T.test("FRAMES", "for a write map these are bytes 4 to 15 only.", () -> {
            PassingFrames x = single(RUN);
            T.due("from byte 3 on", x.map(0, 1, 0, 1, 3), BAD);
            T.due("from byte 4 on", x.map(0, 1, 0, 1, 4), 0);
            T.due("from byte 5 on", x.map(0, 1, 0, 1, 5), 1);
            T.due("up to byte 15", x.map(0, 1, 0, 8, 8), 1);
            T.due("up to byte 16", x.map(0, 1, 0, 8, 9), BAD);
            T.due("a read map from byte 3 on", x.map(0, 0, 0, 1, 3), 0);
        });
        T.test("FRAMES", "The bytes of the datagram lie over the places from its address on, and its offset is"
                + " 0.", () -> {
            for (int address = 0; address <= 24; address++) {
                PassingFrames x = single(SAFE);
                x.map(0, 0, 12, 1, 14);
                counted(x, READ, address, 8);
                for (int k = 0; k < 8; k++) {
                    int want = address + k == 12 ? 114 : 10 + k;
                    T.due("byte " + k + " from place " + address + " on", x.home(0, k), want);
                }
            }
        });
    }

    private static void whoIsRead() {
        T.test("FRAMES", "READ: if the device is in state SAFE or RUN", () -> {
            for (int state = INIT; state <= RUN; state++) {
                PassingFrames x = single(state);
                x.map(0, 0, 0, 8, 4);
                T.due("READ in state " + state, counted(x, READ, 0, 1), state >= SAFE ? 1 : 0);
                T.due("its byte", x.home(0, 0), state >= SAFE ? 104 : 10);
            }
            PassingFrames x = single(RUN);
            x.map(0, 0, 0, 8, 4);
            x.state(0, PREP);
            T.due("READ when it is back in PREP", counted(x, READ, 0, 1), 0);
        });
        T.test("FRAMES", "and has a read map", () -> {
            T.due("no map", counted(single(RUN), READ, 0, 8), 0);
            PassingFrames x = single(RUN);
            x.map(0, 1, 0, 8, 4);
            T.due("a write map alone", counted(x, READ, 0, 8), 0);
            x.map(0, 0, 0, 8, 4);
            T.due("a read map", counted(x, READ, 0, 8), 1);
            x.unmap(0, 0);
            T.due("one that was removed", counted(x, READ, 0, 8), 0);
        });
    }

    private static void whatIsRead() {
        T.test("FRAMES", "those of its bytes that lie over places of the datagram replace the bytes of the datagram"
                + " there", () -> {
            read(6, 4, "10 11 12 13");
            read(7, 4, "10 11 12 104");
            read(8, 4, "10 11 104 105");
            read(10, 4, "104 105 106 107");
            read(12, 4, "106 107 12 13");
            read(13, 4, "107 11 12 13");
            read(14, 4, "10 11 12 13");
            read(8, 8, "10 11 104 105 106 107 16 17");
            read(11, 2, "105 106");
        });
        T.test("FRAMES", "and the counter increases by 1 if there is at least one.", () -> {
            int[] addresses = {5, 6, 7, 9, 13, 14};
            int[] counters = {0, 0, 1, 1, 1, 0};
            for (int i = 0; i < addresses.length; i++) {
                PassingFrames x = readable();
                T.due("READ of 4 from place " + addresses[i] + " on", counted(x, READ, addresses[i], 4), counters[i]);
                T.due("its counter", x.home(0, -1), counters[i]);
            }
            PassingFrames x = Edges.even(8);
            for (int d = 0; d < 8; d++) {
                Check.enter(x, d, SAFE);
                x.map(d, 0, d, 1, 0);
            }
            T.due("of eight devices with a place each", counted(x, READ, 0, 8), 8);
            T.row("their numbers", bytesHome(x, 8), 1, 2, 3, 4, 5, 6, 7, 8);
        });
    }

    /** The read map lies over places 10 to 13, with bytes 4 to 7. */
    private static PassingFrames readable() {
        PassingFrames x = single(SAFE);
        x.map(0, 0, 10, 4, 4);
        return x;
    }

    private static void read(int address, int n, String want) {
        PassingFrames x = readable();
        counted(x, READ, address, n);
        T.row("READ of " + n + " from place " + address + " on", bytesHome(x, n), numbers(want));
    }

    private static int[] numbers(String row) {
        String[] words = row.split(" ");
        int[] numbers = new int[words.length];
        for (int i = 0; i < words.length; i++) {
            numbers[i] = Integer.parseInt(words[i]);
        }
        return numbers;
    }

    private static void whoIsWritten() {
        T.test("FRAMES", "WRITE: if the device is in state RUN", () -> {
            for (int state = INIT; state <= RUN; state++) {
                PassingFrames x = single(state);
                x.map(0, 1, 0, 8, 4);
                T.due("WRITE in state " + state, counted(x, WRITE, 0, 1), state == RUN ? 1 : 0);
                T.due("byte 4", x.memory(0, 4), state == RUN ? 10 : 104);
            }
            PassingFrames x = single(RUN);
            x.map(0, 1, 0, 8, 4);
            x.state(0, SAFE);
            T.due("WRITE when it is back in SAFE", counted(x, WRITE, 0, 1), 0);
        });
        T.test("FRAMES", "and has a write map", () -> {
            PassingFrames x = single(RUN);
            x.map(0, 0, 0, 8, 4);
            T.due("a read map alone", counted(x, WRITE, 0, 8), 0);
            x.map(0, 1, 0, 8, 4);
            T.due("a write map", counted(x, WRITE, 0, 8), 1);
            x.unmap(0, 1);
            T.due("one that was removed", counted(x, WRITE, 0, 8), 0);
        });
    }

    private static void whatIsWritten() {
        T.test("FRAMES", "likewise from the datagram to the device, and the counter increases by 1.", () -> {
            written(6, 4, 0, "108 109 110 111");
            written(7, 4, 1, "13 109 110 111");
            written(8, 4, 1, "12 13 110 111");
            written(10, 4, 1, "10 11 12 13");
            written(12, 4, 1, "108 109 10 11");
            written(13, 4, 1, "108 109 110 10");
            written(14, 4, 0, "108 109 110 111");
            written(8, 8, 1, "12 13 14 15");
            written(11, 2, 1, "108 10 11 111");
        });
    }

    /** The write map lies over places 10 to 13, with bytes 8 to 11. */
    private static void written(int address, int n, int counter, String want) {
        PassingFrames x = single(RUN);
        x.map(0, 1, 10, 4, 8);
        String call = "WRITE of " + n + " from place " + address + " on";
        T.due(call, counted(x, WRITE, address, n), counter);
        T.row("bytes after " + call, freeBytes(x, 0), numbers("104 105 106 107 " + want + " 112 113 114 115"));
        for (int k = 0; k < n; k++) {
            T.due("byte " + k + " comes home as it left", x.home(0, k), 10 + k);
        }
    }

    private static void both() {
        T.test("FRAMES", "BOTH: read as by READ, counter + 1, and written as by WRITE", () -> {
            int[] counters = {0, 0, 1, 3};
            for (int state = INIT; state <= RUN; state++) {
                PassingFrames x = single(state);
                x.map(0, 0, 0, 1, 4);
                x.map(0, 1, 0, 1, 5);
                T.due("BOTH in state " + state, counted(x, BOTH, 0, 1), counters[state]);
                T.due("read in state " + state, x.home(0, 0), state >= SAFE ? 104 : 10);
                T.due("written in state " + state, x.memory(0, 5), state == RUN ? 10 : 105);
            }
        });
        T.test("FRAMES", "counter + 2, each only if there is at least one such byte.", () -> {
            // place, number and counter: the read map lies over places 9 and 10, the write map over 11 and 12
            int[][] calls = {{7, 2, 0}, {8, 1, 0}, {8, 2, 1}, {9, 1, 1}, {9, 2, 1}, {9, 3, 3}, {9, 4, 3}, {10, 1, 1},
                {10, 2, 3}, {11, 1, 2}, {11, 2, 2}, {12, 1, 2}, {12, 2, 2}, {13, 1, 0}, {13, 2, 0}};
            for (int[] c : calls) {
                PassingFrames x = single(RUN);
                x.map(0, 0, 9, 2, 4);
                x.map(0, 1, 11, 2, 8);
                T.due("BOTH of " + c[1] + " from place " + c[0] + " on", counted(x, BOTH, c[0], c[1]), c[2]);
            }
        });
        T.test("FRAMES", "with the bytes as they came", () -> {
            PassingFrames x = single(RUN);
            x.map(0, 0, 0, 2, 4);
            x.map(0, 1, 0, 2, 4);
            T.due("BOTH over the same bytes", counted(x, BOTH, 0, 2), 3);
            T.row("read is what was there", bytesHome(x, 2), 104, 105);
            T.due("written is what came", x.memory(0, 4), 10);
            x = Edges.even(2);
            Check.enter(x, 0, SAFE);
            Check.enter(x, 1, RUN);
            x.own(0, 4, 99);
            x.put(0, 0, 10);
            x.map(0, 0, 0, 1, 4);
            x.map(1, 1, 0, 1, 4);
            T.due("BOTH of two devices", counted(x, BOTH, 0, 1), 3);
            T.due("what the former one put in came to the latter", x.memory(1, 4), 99);
        });
    }
}
