/** The sentences of the promises 15 to 20 that name a boundary, each with a test of its own. */
public final class EdgesOfDatagramsTest {
    private static final int BAD = -1, NO = -2, NONE = -4, LOST = -5;
    private static final Edges T = new Edges("EdgesOfDatagramsTest");

    public static void main(String[] args) {
        gramNumbers();
        gramAddresses();
        gramOffsetAndLength();
        gramAnswers();
        clear();
        put();
        send();
        sendIsRefused();
        home();
        homeOfNone();
        expected();
        expectedOfNone();
        T.finish();
    }

    private static void gramNumbers() {
        T.test("15", "i: the datagram, 0 to 3", () ->
            T.range("gram", 0, 3, Edges::busy, (x, i) -> x.gram(i, 7, 0, 0, 1)));
        T.test("15", "command: 1 to 12", () -> {
            // address 0 is good for 1 to 3 and 7 to 12, and 1 for 1 to 6 and 10 to 12
            for (int command : new int[] {1, 2, 3, 7, 8, 9, 10, 11, 12}) {
                T.due("gram of " + command, new PassingFrames().gram(0, command, 0, 0, 1), 0);
            }
            for (int command : new int[] {1, 2, 3, 4, 5, 6, 10, 11, 12}) {
                T.due("gram of " + command, new PassingFrames().gram(0, command, 1, 0, 1), 0);
            }
            for (int address = 0; address <= 1; address++) {
                int a = address;
                for (int command : new int[] {-1, 0, 13, 14, Integer.MIN_VALUE, Integer.MAX_VALUE}) {
                    T.refused("gram of " + command, BAD, Edges::busy, x -> x.gram(0, command, a, 0, 1));
                }
            }
        });
    }

    private static void gramAddresses() {
        T.test("15", "address: 0 to 7 for the commands 1 to 3", () -> {
            for (int command = 1; command <= 3; command++) {
                addresses(command, 0, 7, 1);
            }
        });
        T.test("15", "1 to 99 for 4 to 6", () -> {
            for (int command = 4; command <= 6; command++) {
                addresses(command, 1, 99, 1);
            }
        });
        T.test("15", "0 for 7 to 9", () -> {
            for (int command = 7; command <= 9; command++) {
                addresses(command, 0, 0, 1);
            }
        });
        T.test("15", "0 to 32 - n for 10 to 12", () -> {
            for (int command = 10; command <= 12; command++) {
                addresses(command, 0, 31, 1);
                addresses(command, 0, 30, 2);
                addresses(command, 0, 25, 7);
                addresses(command, 0, 24, 8);
            }
        });
    }

    private static void addresses(int command, int least, int most, int n) {
        T.range("gram of " + command, least, most, Edges::busy, (x, address) -> x.gram(0, command, address, 0, n));
    }

    private static void gramOffsetAndLength() {
        T.test("15", "offset: 0 to 15", () -> {
            for (int command = 1; command <= 9; command++) {
                int c = command;
                int address = command >= 4 && command <= 6 ? 1 : 0;
                T.range("gram of " + c, 0, 15, Edges::busy, (x, offset) -> x.gram(0, c, address, offset, 8));
            }
        });
        T.test("15", "0 for the commands 10 to 12", () -> {
            for (int command = 10; command <= 12; command++) {
                int c = command;
                T.range("gram of " + c, 0, 0, Edges::busy, (x, offset) -> x.gram(0, c, 0, offset, 8));
            }
        });
        T.test("15", "n: the length, 1 to 8", () -> {
            for (int command = 1; command <= 12; command++) {
                int c = command;
                int address = command >= 4 && command <= 6 ? 1 : 0;
                T.range("gram of " + c, 1, 8, Edges::busy, (x, n) -> x.gram(0, c, address, 0, n));
            }
            T.range("gram at place 31", 1, 1, Edges::busy, (x, n) -> x.gram(0, 10, 31, 0, n));
            T.range("gram at place 25", 1, 7, Edges::busy, (x, n) -> x.gram(0, 12, 25, 0, n));
        });
    }

    private static void gramAnswers() {
        T.test("15", "Sets the command of a datagram.", () -> {
            PassingFrames x = allSet();
            x.gram(0, 8, 0, 4, 1);
            x.gram(3, 9, 0, 4, 1);
            T.due("send()", x.send(), 4 + 4 + 4 + 12);
            T.row("counters", new int[] {x.home(0, -1), x.home(1, -1), x.home(2, -1), x.home(3, -1)}, 4, 4, 4, 12);
        });
        T.test("15", "Returns the command that it had, 0 for none", () -> {
            PassingFrames x = new PassingFrames();
            T.due("at first", x.gram(0, 12, 0, 0, 1), 0);
            T.due("behind 12", x.gram(0, 1, 0, 0, 1), 12);
            T.due("behind 1", x.gram(0, 1, 0, 0, 1), 1);
            T.due("of another datagram", x.gram(3, 7, 0, 0, 1), 0);
            x.clear(0);
            T.due("behind clear()", x.gram(0, 7, 0, 0, 1), 0);
        });
        T.test("15", "BAD if an argument is out of range.", () -> {
            T.refused("gram(4, ..)", BAD, Edges::busy, x -> x.gram(4, 7, 0, 0, 1));
            T.refused("a bad one of a datagram without a command", BAD, Edges::busy, x -> x.gram(3, 7, 1, 0, 1));
            T.refused("an address whose sum goes round", BAD, Edges::busy, x -> x.gram(0, 10, 0, 0, Integer.MIN_VALUE));
            T.refused("an address whose difference goes round", BAD, Edges::busy,
                x -> x.gram(0, 10, Integer.MAX_VALUE, 0, Integer.MIN_VALUE));
        });
        T.test("15", "Its bytes stay.", () -> {
            PassingFrames x = new PassingFrames();
            x.put(2, 0, 255);
            x.put(2, 7, 1);
            x.gram(2, 5, 22, 4, 1);
            x.gram(2, 5, 22, 8, 8);
            T.due("send()", x.send(), 1);
            T.row("written", new int[] {x.memory(1, 8), x.memory(1, 15)}, 255, 1);
            T.row("put", new int[] {x.put(2, 0, 0), x.put(2, 7, 0)}, 255, 1);
        });
    }

    private static void clear() {
        T.test("16", "i: the datagram, 0 to 3", () -> {
            T.range("clear", 0, 3, PassingFrames::new, (x, i) -> x.clear(i));
            for (int i = 0; i <= 3; i++) {
                PassingFrames x = allSet();
                T.due("clear(" + i + ")", x.clear(i), 7);
                T.due("send() of the others", x.send(), 12);
                T.due("home of the cleared one", x.home(i, -1), NONE);
            }
        });
        T.test("16", "Removes the command of a datagram.", () -> {
            PassingFrames x = allSet();
            x.clear(0);
            T.due("send() without it", x.send(), 12);
            T.due("gram() then", x.gram(0, 7, 0, 0, 1), 0);
            T.due("gram() of another", x.gram(1, 7, 0, 0, 1), 7);
            T.due("send() with it", x.send(), 16);
        });
        T.test("16", "Removes the command", () -> {
            for (int command = 1; command <= 9; command++) {
                PassingFrames x = Edges.even(1);
                x.put(0, 0, 9);
                x.gram(0, command, command >= 4 && command <= 6 ? 1 : 0, 4, 1);
                x.clear(0);
                x.gram(1, 7, 0, 0, 1);
                T.due("send() behind clear() of " + command, x.send(), 1);
                T.due("nothing is written by " + command, x.memory(0, 4), 0);
            }
        });
        T.test("16", "Returns the command that it had", () -> {
            for (int command = 1; command <= 12; command++) {
                PassingFrames x = new PassingFrames();
                x.gram(0, command, command >= 4 && command <= 6 ? 1 : 0, 0, 1);
                T.due("clear() of " + command, x.clear(0), command);
            }
        });
        T.test("16", "BAD if i is out of range", () -> {
            T.refused("clear(-1)", BAD, Edges::busy, x -> x.clear(-1));
            T.refused("clear(4)", BAD, Edges::busy, x -> x.clear(4));
        });
        T.test("16", "NO if it had none.", () -> {
            T.refused("clear(3)", NO, Edges::busy, x -> x.clear(3));
            T.refused("clear(0) at first", NO, PassingFrames::new, x -> x.clear(0));
            PassingFrames x = allSet();
            T.due("clear(1)", x.clear(1), 7);
            T.due("clear(1) again", x.clear(1), NO);
        });
        T.test("16", "Its bytes stay.", () -> {
            PassingFrames x = allSet();
            x.put(1, 0, 255);
            x.clear(1);
            T.due("put(1, 0, 0)", x.put(1, 0, 0), 255);
        });
    }

    /** All four datagrams are READs of the four devices. */
    private static PassingFrames allSet() {
        PassingFrames x = Edges.even(4);
        for (int i = 0; i <= 3; i++) {
            x.gram(i, 7, 0, 0, 1);
        }
        return x;
    }

    private static void put() {
        T.test("17", "i: the datagram, 0 to 3", () -> T.range("put", 0, 3, Edges::busy, (x, i) -> x.put(i, 0, 99)));
        T.test("17", "k: the byte, 0 to 7", () -> T.range("put", 0, 7, Edges::busy, (x, k) -> x.put(0, k, 99)));
        T.test("17", "v: the new value, 0 to 255", () -> T.range("put", 0, 255, Edges::busy, (x, v) -> x.put(0, 0, v)));
        T.test("17", "Returns the previous value", () -> {
            PassingFrames x = new PassingFrames();
            T.due("put(3, 7, 255)", x.put(3, 7, 255), 0);
            T.due("put(3, 7, 255) again", x.put(3, 7, 255), 255);
            T.due("put(3, 7, 0)", x.put(3, 7, 0), 255);
            T.due("put(3, 7, 1)", x.put(3, 7, 1), 0);
            T.due("the byte before", x.put(3, 6, 1), 0);
            T.due("the datagram before", x.put(2, 7, 1), 0);
        });
        T.test("17", "BAD if an argument is out of range.", () -> {
            T.refused("put(4, 0, 0)", BAD, Edges::busy, x -> x.put(4, 0, 0));
            T.refused("put(0, 8, 0)", BAD, Edges::busy, x -> x.put(0, 8, 0));
            T.refused("put(0, 0, 256)", BAD, Edges::busy, x -> x.put(0, 0, 256));
            T.refused("put(0, -1, 0)", BAD, Edges::busy, x -> x.put(0, -1, 0));
        });
        T.test("17", "Sets a byte of a datagram with which it leaves.", () -> {
            PassingFrames x = Edges.even(1);
            x.gram(0, 8, 0, 4, 1);
            for (int v : new int[] {0, 1, 254, 255}) {
                x.put(0, 0, v);
                x.send();
                T.due("written with " + v, x.memory(0, 4), v);
            }
            x.put(0, 0, 7);
            T.due("what came home stays", x.home(0, 0), 255);
            x.gram(0, 7, 0, 0, 1);
            x.send();
            T.due("what came home is not what leaves", x.put(0, 0, 0), 7);
        });
    }

    private static void send() {
        T.test("18", "Sends a frame with all datagrams that have a command.", () -> {
            for (int set = 1; set <= 15; set++) {
                PassingFrames x = Edges.even(1);
                for (int i = 0; i <= 3; i++) {
                    x.put(i, 0, 100 + i);
                    if ((set >> i & 1) == 1) {
                        x.gram(i, 8, 0, 4 + i, 1);
                    }
                }
                T.due("send() of the set " + set, x.send(), Integer.bitCount(set));
                for (int i = 0; i <= 3; i++) {
                    T.due("byte of " + i + " of the set " + set, x.memory(0, 4 + i), (set >> i & 1) * (100 + i));
                }
            }
        });
        T.test("18", "Returns the sum of the counters of these datagrams when the frame comes home", () -> {
            PassingFrames x = Edges.even(8);
            x.gram(0, 4, 99, 0, 1);
            T.due("0", x.send(), 0);
            x.gram(1, 4, 1, 0, 1);
            T.due("0 and 1", x.send(), 1);
            for (int i = 0; i <= 3; i++) {
                x.gram(i, 9, 0, 4, 1);
            }
            T.due("four times 24", x.send(), 96);
            x.clear(3);
            T.due("three times 24", x.send(), 72);
        });
        T.test("18", "LOST if the frame was lost.", () -> {
            PassingFrames x = allSet();
            x.lose(1);
            T.due("the first send()", x.send(), LOST);
            T.due("the second send()", x.send(), 16);
            x = Edges.cut(allSet(), 0, 4);
            x.lose(1);
            T.due("send() to nobody", x.send(), LOST);
            T.due("send() to nobody, not lost", x.send(), 0);
        });
    }

    private static void sendIsRefused() {
        T.test("18", "NO if no datagram has a command (nothing is sent)", () -> {
            T.refused("send() at first", NO, PassingFrames::new, PassingFrames::send);
            T.refused("send() of a ring with losses", NO, EdgesOfDatagramsTest::cleared, PassingFrames::send);
            PassingFrames x = cleared();
            int time = x.count(1);
            T.due("it is not LOST", x.send(), NO);
            T.due("no time passed", x.count(1), time);
            T.due("nothing was lost", x.count(7), 2);
            x.lose(0);
            x.gram(3, 7, 0, 0, 1);
            T.due("send() of one", x.send() > 0 ? x.home(3, -1) : NO, 4);
            x.clear(3);
            T.due("send() of none again", x.send(), NO);
        });
    }

    private static PassingFrames cleared() {
        PassingFrames x = Edges.busy();
        x.clear(0);
        x.clear(1);
        x.clear(2);
        return x;
    }

    private static void home() {
        T.test("19", "i: the datagram, 0 to 3", () -> T.range("home", 0, 3, Edges::busy, (x, i) -> x.home(i, 0)));
        T.test("19", "k: -1 for its counter, 0 to 7 for a byte", () -> {
            T.range("home", -1, 7, Edges::busy, (x, k) -> x.home(0, k));
            PassingFrames x = Edges.even(2);
            for (int k = 0; k <= 7; k++) {
                x.put(0, k, 248 + k);
            }
            x.gram(0, 8, 0, 4, 8);
            x.send();
            T.due("home(0, -1)", x.home(0, -1), 2);
            for (int k = 0; k <= 7; k++) {
                T.due("home(0, " + k + ")", x.home(0, k), 248 + k);
            }
        });
        T.test("19", "BAD if i or k is out of range", () -> {
            T.refused("home(-1, 0)", BAD, Edges::busy, x -> x.home(-1, 0));
            T.refused("home(4, 0)", BAD, Edges::busy, x -> x.home(4, 0));
            T.refused("home(0, -2)", BAD, Edges::busy, x -> x.home(0, -2));
            T.refused("home(0, 8)", BAD, Edges::busy, x -> x.home(0, 8));
            T.refused("home(3, 8) of one without a command", BAD, Edges::busy, x -> x.home(3, 8));
            T.due("home(4, 0) before any frame", new PassingFrames().home(4, 0), BAD);
            T.due("home(0, -2) before any frame", new PassingFrames().home(0, -2), BAD);
        });
        T.test("19", "Returns how a datagram came home with the last frame of send() that was not lost.", () -> {
            PassingFrames x = allSet();
            x.send();
            x.own(0, 4, 77);
            x.gram(0, 4, 1, 4, 1);
            T.due("before the next frame", x.home(0, 0), 7);
            x.lose(1);
            x.send();
            T.due("after a lost one", x.home(0, 0), 7);
            x.state(0, 1);
            x.fetch(0);
            x.push(0, 9);
            T.due("after a fetch() and a push()", x.home(0, 0), 7);
            x.send();
            T.due("after one that was not lost", x.home(0, 0), 77);
        });
    }

    private static void homeOfNone() {
        T.test("19", "NONE if no frame has come home", () -> {
            PassingFrames x = allSet();
            T.due("at first", x.home(0, -1), NONE);
            x.lose(1);
            x.send();
            T.due("after a lost one", x.home(0, -1), NONE);
            T.due("a byte after a lost one", x.home(0, 0), NONE);
            x.send();
            T.due("after one that came home", x.home(0, -1), 4);
        });
        T.test("19", "or the datagram had no command then", () -> {
            PassingFrames x = Edges.even(4);
            x.gram(1, 7, 0, 0, 8);
            x.send();
            x.gram(0, 7, 0, 0, 8);
            x.clear(1);
            T.due("one that was set behind it", x.home(0, -1), NONE);
            T.due("its byte", x.home(0, 0), NONE);
            T.due("one that was cleared behind it", x.home(1, -1), 4);
            T.due("its last byte", x.home(1, 7) >= 0 ? 1 : 0, 1);
            x.send();
            T.due("the former then", x.home(0, -1), 4);
            T.due("the latter then", x.home(1, -1), NONE);
        });
        T.test("19", "or k is not below its length then.", () -> {
            for (int n = 1; n <= 8; n++) {
                PassingFrames x = Edges.even(1);
                x.gram(0, 7, 0, 4, n);
                x.send();
                x.gram(0, 7, 0, 4, 9 - n);
                T.due("counter of length " + n, x.home(0, -1), 1);
                for (int k = 0; k <= 7; k++) {
                    T.due("byte " + k + " of length " + n, x.home(0, k), k < n ? 0 : NONE);
                }
            }
        });
    }

    private static void expected() {
        T.test("20", "i: the datagram, 0 to 3", () -> {
            T.range("expected", 0, 3, Edges::busy, (x, i) -> x.expected(i));
            PassingFrames x = allSet();
            x.send();
            for (int i = 0; i <= 3; i++) {
                T.due("expected(" + i + ")", x.expected(i), 4);
            }
        });
        T.test("20", "Returns the expected counter of a datagram as it is set now.", () -> {
            PassingFrames x = Edges.even(4);
            x.gram(0, 7, 0, 0, 1);
            x.send();
            x.gram(0, 9, 0, 4, 1);
            x.send();
            T.due("set to the second", x.expected(0), 12);
            x.gram(0, 7, 0, 0, 1);
            T.due("set to the first", x.expected(0), 4);
            x.gram(3, 9, 0, 4, 1);
            T.due("another set to the second", x.expected(3), 12);
            x.gram(0, 4, 99, 0, 1);
            x.send();
            T.due("a counter of 0", x.expected(0), 0);
        });
        T.test("20", "BAD if i is out of range", () -> {
            T.refused("expected(-1)", BAD, Edges::busy, x -> x.expected(-1));
            T.refused("expected(4)", BAD, Edges::busy, x -> x.expected(4));
        });
    }

    private static void expectedOfNone() {
        T.test("20", "NONE if it has no command", () -> {
            PassingFrames x = allSet();
            x.send();
            x.clear(2);
            T.due("of the cleared one", x.expected(2), NONE);
            T.due("of the one before", x.expected(1), 4);
            T.due("of the one behind", x.expected(3), 4);
            T.due("at first", new PassingFrames().expected(0), NONE);
        });
        T.test("20", "or none like it is remembered.", () -> {
            PassingFrames x = allSet();
            T.due("before the first frame", x.expected(0), NONE);
            x.lose(1);
            x.send();
            T.due("after a lost frame", x.expected(0), NONE);
            x.send();
            T.due("after the first that comes home", x.expected(0), 4);
            x.gram(0, 7, 0, 0, 2);
            T.due("set to another length", x.expected(0), NONE);
            x = Edges.even(4);
            for (int n = 1; n <= 7; n++) {
                x.gram(0, 7, 0, 0, n);
                x.send();
            }
            x.gram(0, 7, 0, 0, 1);
            T.due("the forgotten one", x.expected(0), NONE);
            x.gram(0, 7, 0, 0, 2);
            T.due("the oldest that is remembered", x.expected(0), 4);
        });
    }
}
