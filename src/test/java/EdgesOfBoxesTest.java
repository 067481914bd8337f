/** The sentences of MAILBOXES and of the promises 21 to 26 that name a boundary, each with a test of its own. */
public final class EdgesOfBoxesTest {
    private static final int BAD = -1, NO = -2, FULL = -3, NONE = -4, LOST = -5;
    private static final Edges T = new Edges("EdgesOfBoxesTest");

    public static void main(String[] args) {
        boxesAtFirst();
        whomTheMasterTalksTo();
        fetchGives();
        fetchGivesAgain();
        pushAccepts();
        pushAcceptedAlready();
        pending();
        tell();
        take();
        fetch();
        fetchRefused();
        push();
        pushRefused();
        again();
        againRefused();
        box();
        T.finish();
    }

    private static int[] boxes(PassingFrames x, int d) {
        int[] all = new int[8];
        for (int what = 0; what <= 7; what++) {
            all[what] = x.box(d, what);
        }
        return all;
    }

    /** The outbox and inbox, their bits, the master's bits, the last message and the pending one, in this order. */
    private static void boxesAre(String when, PassingFrames x, int... want) {
        T.row("boxes " + when, boxes(x, 0), want);
    }

    /** Device 0 has messages from 11 on in its outbox. */
    private static PassingFrames telling(int messages) {
        PassingFrames x = Edges.prepared();
        for (int i = 0; i < messages; i++) {
            x.tell(0, 11 + i);
        }
        return x;
    }

    /** Device 0 has messages from 21 on in its inbox. */
    private static PassingFrames pushed(int messages) {
        PassingFrames x = Edges.prepared();
        for (int i = 0; i < messages; i++) {
            x.push(0, 21 + i);
        }
        return x;
    }

    private static void boxesAtFirst() {
        T.test("MAILBOXES", "an outbox and an inbox with at most 4 messages (1 to 255) each", () -> {
            for (int n = 0; n <= 3; n++) {
                T.due("tell() behind " + n, telling(n).tell(0, 99), n + 1);
                T.due("push() behind " + n, pushed(n).push(0, 99), n + 1);
            }
            T.due("tell() behind 4", telling(4).tell(0, 99), FULL);
            T.due("push() behind 4", pushed(4).push(0, 99), FULL);
            for (int v : new int[] {1, 2, 254, 255}) {
                PassingFrames x = Edges.prepared();
                x.tell(0, v);
                x.push(0, v);
                T.due("fetch() of " + v, x.fetch(0), v);
                T.due("take() of " + v, x.take(0), v);
            }
            for (int v : new int[] {0, 256}) {
                T.due("tell() of " + v, Edges.prepared().tell(0, v), BAD);
                T.due("push() of " + v, Edges.prepared().push(0, v), BAD);
            }
        });
        T.test("MAILBOXES", "a bit for each of them (0 at first)", () -> {
            PassingFrames x = Edges.even(8);
            for (int d = 0; d < 8; d++) {
                T.row("bits of " + d, new int[] {x.box(d, 2), x.box(d, 3)}, 0, 0);
            }
        });
        T.test("MAILBOXES", "and the last message that it gave from its outbox (none at first).", () -> {
            PassingFrames x = telling(2);
            T.due("at first", x.box(0, 6), NONE);
            x.fetch(0);
            T.due("after a fetch()", x.box(0, 6), 11);
            x.fetch(0);
            T.due("after another", x.box(0, 6), 12);
            x.fetch(0);
            T.due("after one of nothing", x.box(0, 6), 12);
        });
        T.test("MAILBOXES", "one for the outbox and one for the inbox (1 at first)", () -> {
            PassingFrames x = Edges.even(8);
            for (int d = 0; d < 8; d++) {
                T.row("the master's bits of " + d, new int[] {x.box(d, 4), x.box(d, 5)}, 1, 1);
            }
        });
        T.test("MAILBOXES", "and a message may be pending for the device (none at first).", () -> {
            PassingFrames x = Edges.prepared();
            T.due("at first", x.box(0, 7), NONE);
            T.due("again()", x.again(0), NO);
            T.due("push()", x.push(0, 5), 1);
            T.due("after a push()", x.box(0, 7), NONE);
            x.lose(1);
            x.push(0, 6);
            T.due("after a lost push()", x.box(0, 7), 6);
            T.due("of the device beside it", x.box(1, 7), NONE);
        });
    }

    private static void whomTheMasterTalksTo() {
        T.test("MAILBOXES", "The master talks to a device only if it is on the A side or on the B side", () -> {
            for (int d = 0; d <= 3; d++) {
                PassingFrames x = Edges.cut(Edges.prepared(), 1, 3);
                boolean talks = d == 0 || d == 3;
                T.due("fetch(" + d + ")", x.fetch(d), talks ? NONE : NO);
                T.due("push(" + d + ", 1)", x.push(d, 1), talks ? 1 : NO);
                T.due("time", x.count(1), talks ? 2 * x.count(12) : 0);
            }
        });
        T.test("MAILBOXES", "and not in state INIT.", () -> {
            for (int state = 0; state <= 3; state++) {
                PassingFrames x = new PassingFrames();
                Check.enter(x, 0, state);
                T.due("fetch(0) in state " + state, x.fetch(0), state == 0 ? NO : NONE);
                T.due("push(0, 1) in state " + state, x.push(0, 1), state == 0 ? NO : 1);
                x.lose(1);
                x.push(0, 2);
                T.due("again(0) in state " + state, x.again(0), state == 0 ? NO : 2);
            }
            PassingFrames x = Edges.prepared();
            x.state(0, 0);
            T.due("fetch(0) when it is back in INIT", x.fetch(0), NO);
        });
    }

    private static void fetchGives() {
        T.test("MAILBOXES", "the device gives the oldest message of its outbox, which is removed and becomes the last"
                + " message, and the bit of the outbox becomes the master's", () -> {
            for (int n = 1; n <= 4; n++) {
                PassingFrames x = telling(n);
                T.due("fetch() of " + n, x.fetch(0), 11);
                boxesAre("of " + n, x, n - 1, 0, 1, 0, 0, 1, 11, NONE);
            }
            PassingFrames x = telling(4);
            for (int i = 0; i < 4; i++) {
                T.due("fetch() " + i, x.fetch(0), 11 + i);
                boxesAre("after fetch() " + i, x, 3 - i, 0, 1 - i % 2, 0, i % 2, 1, 11 + i, NONE);
            }
        });
        T.test("MAILBOXES", "if the outbox is empty, nothing is given.", () -> {
            PassingFrames x = telling(0);
            T.due("fetch() at first", x.fetch(0), NONE);
            boxesAre("then", x, 0, 0, 0, 0, 1, 1, NONE, NONE);
            x = telling(1);
            x.fetch(0);
            T.due("fetch() behind the last one", x.fetch(0), NONE);
            boxesAre("then", x, 0, 0, 1, 0, 0, 1, 11, NONE);
            T.due("fetch() once more", x.fetch(0), NONE);
            x.tell(0, 77);
            T.due("fetch() of a new one", x.fetch(0), 77);
        });
        T.test("MAILBOXES", "If a message comes home, the master's bit changes.", () -> {
            PassingFrames x = telling(3);
            x.lose(1);
            x.fetch(0);
            T.due("when the frame is lost", x.box(0, 4), 1);
            int[] bits = {0, 1, 0, 0, 0};
            for (int i = 0; i < bits.length; i++) {
                x.fetch(0);
                T.due("after fetch() " + i, x.box(0, 4), bits[i]);
            }
        });
    }

    private static void fetchGivesAgain() {
        T.test("MAILBOXES", "If both bits are equal, the device gives the last message again", () -> {
            for (int losses = 1; losses <= 9; losses += 4) {
                for (int n = 1; n <= 4; n++) {
                    PassingFrames x = telling(n);
                    x.lose(losses);
                    for (int i = 0; i < losses; i++) {
                        T.due("lost fetch()", x.fetch(0), LOST);
                        boxesAre("after it, of " + n, x, n - 1, 0, 1, 0, 1, 1, 11, NONE);
                    }
                    T.due("fetch() of " + n, x.fetch(0), 11);
                    boxesAre("after it came home", x, n - 1, 0, 1, 0, 0, 1, 11, NONE);
                    T.due("the next fetch()", x.fetch(0), n > 1 ? 12 : NONE);
                }
            }
        });
        T.test("MAILBOXES", "(nothing if there is none)", () -> {
            // equal bits come from a message that was given, and INIT takes both away: so there is always one
            PassingFrames x = telling(1);
            x.lose(1);
            x.fetch(0);
            x.state(0, 0);
            x.state(0, 1);
            boxesAre("after INIT", x, 0, 0, 0, 0, 1, 1, NONE, NONE);
            T.due("fetch() after INIT", x.fetch(0), NONE);
            T.due("fetch() once more", x.fetch(0), NONE);
        });
    }

    private static void pushAccepts() {
        T.test("MAILBOXES", "and the inbox has fewer than 4 messages, the message is appended, the bit of the inbox"
                + " becomes the master's, and the message is accepted.", () -> {
            for (int n = 0; n <= 3; n++) {
                PassingFrames x = pushed(n);
                T.due("push() behind " + n, x.push(0, 99), n + 1);
                boxesAre("behind " + n, x, 0, n + 1, 0, 1 - n % 2, 1, n % 2, NONE, NONE);
                for (int i = 0; i < n; i++) {
                    T.due("take()", x.take(0), 21 + i);
                }
                T.due("take() of the new one", x.take(0), 99);
            }
        });
        T.test("MAILBOXES", "Otherwise it is not accepted.", () -> {
            PassingFrames x = pushed(4);
            T.due("push() behind 4", x.push(0, 99), FULL);
            boxesAre("then", x, 0, 4, 0, 0, 1, 1, NONE, NONE);
            T.due("push() once more", x.push(0, 99), FULL);
            x.take(0);
            T.due("push() behind 3", x.push(0, 98), 4);
            for (int v : new int[] {22, 23, 24, 98, NONE}) {
                T.due("take()", x.take(0), v);
            }
        });
        T.test("MAILBOXES", "If it comes home that it was accepted, the master's bit changes.", () -> {
            PassingFrames x = pushed(0);
            x.lose(1);
            x.push(0, 5);
            T.due("when the frame is lost", x.box(0, 5), 1);
            x.again(0);
            T.due("when it comes home", x.box(0, 5), 0);
            x.push(0, 6);
            T.due("when another comes home", x.box(0, 5), 1);
            x = pushed(4);
            x.push(0, 5);
            T.due("when it was not accepted", x.box(0, 5), 1);
        });
    }

    private static void pushAcceptedAlready() {
        T.test("MAILBOXES", "If both bits are equal, the message is taken to be accepted already.", () -> {
            for (int n = 0; n <= 3; n++) {
                PassingFrames x = pushed(n);
                x.lose(2);
                T.due("lost push() behind " + n, x.push(0, 99), LOST);
                boxesAre("then", x, 0, n + 1, 0, 1 - n % 2, 1, 1 - n % 2, NONE, 99);
                T.due("lost again() behind " + n, x.again(0), LOST);
                T.due("again() behind " + n, x.again(0), n + 1);
                boxesAre("once in the inbox", x, 0, n + 1, 0, 1 - n % 2, 1, n % 2, NONE, NONE);
            }
        });
        T.test("MAILBOXES", "the message is taken to be accepted already.", () -> {
            PassingFrames x = pushed(0);
            x.lose(1);
            x.push(0, 99);
            T.due("take() before it comes home", x.take(0), 99);
            T.due("again() of the message that was taken", x.again(0), 0);
            T.due("take() then", x.take(0), NONE);
        });
    }

    private static void pending() {
        T.test("MAILBOXES", "If the frame is lost, the message is pending until it comes home that it was"
                + " accepted.", () -> {
            PassingFrames x = pushed(4);
            x.lose(2);
            T.due("lost push() to a full inbox", x.push(0, 99), LOST);
            T.due("pending", x.box(0, 7), 99);
            T.due("lost again()", x.again(0), LOST);
            T.due("pending after it", x.box(0, 7), 99);
            T.due("again() that is not accepted", x.again(0), FULL);
            T.due("pending after that", x.box(0, 7), 99);
            x.take(0);
            x.fetch(0);
            x.state(0, 2);
            x.send();
            T.due("pending after other calls", x.box(0, 7), 99);
            T.due("again() that is accepted", x.again(0), 4);
            T.due("pending no more", x.box(0, 7), NONE);
        });
    }

    private static void tell() {
        T.test("21", "d: a device", () -> {
            T.range("tell of four", 0, 3, Edges::busy, (x, d) -> x.tell(d, 1));
            T.range("tell of one", 0, 0, () -> Edges.even(1), (x, d) -> x.tell(d, 1));
        });
        T.test("21", "v: the message, 1 to 255", () -> T.range("tell", 1, 255, Edges::busy, (x, v) -> x.tell(0, v)));
        T.test("21", "The device itself appends a message to its outbox.", () -> {
            PassingFrames x = telling(4);
            for (int i = 0; i < 4; i++) {
                T.due("fetch() " + i, x.fetch(0), 11 + i);
            }
            T.due("fetch() of another", telling(4).fetch(1), NONE);
            x = new PassingFrames();
            x.tell(0, 5);
            T.due("time", x.count(1), 0);
            T.row("bits", new int[] {x.box(0, 2), x.box(0, 4)}, 0, 1);
        });
        T.test("21", "Returns how many messages the outbox has then", () -> {
            PassingFrames x = Edges.cut(new PassingFrames(), 0, 4);
            for (int n = 1; n <= 4; n++) {
                T.due("tell() in INIT and on no side", x.tell(0, 255), n);
            }
            x = telling(3);
            x.fetch(0);
            T.due("tell() behind a fetch()", x.tell(0, 1), 3);
        });
        T.test("21", "BAD if there is no such device or v is out of range", () -> {
            T.refused("tell(4, 1)", BAD, Edges::busy, x -> x.tell(4, 1));
            T.refused("tell(0, 0)", BAD, Edges::busy, x -> x.tell(0, 0));
            T.refused("tell(0, 256)", BAD, Edges::busy, x -> x.tell(0, 256));
            T.refused("tell(0, 256) when full", BAD, () -> telling(4), x -> x.tell(0, 256));
        });
        T.test("21", "FULL if it has 4.", () -> {
            T.due("with 3", telling(3).tell(0, 1), 4);
            T.refused("with 4", FULL, () -> telling(4), x -> x.tell(0, 1));
            PassingFrames x = telling(4);
            x.fetch(0);
            T.due("with 3 again", x.tell(0, 1), 4);
            T.due("with 4 again", x.tell(0, 1), FULL);
        });
    }

    private static void take() {
        T.test("22", "d: a device", () -> T.range("take", 0, 3, Edges::busy, (x, d) -> x.take(d)));
        T.test("22", "The device itself removes the oldest message of its inbox.", () -> {
            PassingFrames x = pushed(4);
            Edges.cut(x, 0, 4);
            for (int n = 3; n >= 0; n--) {
                T.due("take()", x.take(0), 24 - n);
                T.due("messages left", x.box(0, 1), n);
            }
            T.row("bits stay", new int[] {x.box(0, 3), x.box(0, 5)}, 0, 1);
        });
        T.test("22", "BAD if there is no such device", () -> {
            T.refused("take(-1)", BAD, Edges::busy, x -> x.take(-1));
            T.refused("take(4)", BAD, Edges::busy, x -> x.take(4));
        });
        T.test("22", "NONE if the inbox is empty.", () -> {
            T.refused("at first", NONE, PassingFrames::new, x -> x.take(0));
            T.refused("with messages in the outbox alone", NONE, () -> telling(4), x -> x.take(0));
            T.refused("with messages at another device", NONE, () -> pushed(4), x -> x.take(1));
            PassingFrames x = pushed(1);
            T.due("with one", x.take(0), 21);
            T.due("with none", x.take(0), NONE);
        });
    }

    private static void fetch() {
        T.test("23", "d: a device", () -> T.range("fetch", 0, 3, Edges::busy, (x, d) -> x.fetch(d)));
        T.test("23", "The master fetches a message from the outbox of a device by a frame (FETCH above).", () -> {
            PassingFrames x = telling(1);
            x.put(0, 0, 9);
            x.gram(0, 8, 0, 4, 1);
            x.fetch(0);
            T.due("time", x.count(1), 30);
            T.due("it edits no bytes", x.memory(0, 4), 0);
            T.due("no datagram comes home", x.home(0, -1), NONE);
        });
        T.test("23", "Returns the message that came home", () -> {
            PassingFrames x = Edges.prepared();
            x.tell(0, 1);
            x.tell(0, 255);
            x.tell(1, 7);
            T.due("the least", x.fetch(0), 1);
            T.due("that of another device", x.fetch(1), 7);
            T.due("the greatest", x.fetch(0), 255);
        });
        T.test("23", "LOST if the frame was lost", () -> {
            PassingFrames x = telling(1);
            x.lose(1);
            T.due("the first", x.fetch(0), LOST);
            T.due("time", x.count(1), 30);
            T.due("the second", x.fetch(0), 11);
            x.lose(1);
            T.due("of nothing", x.fetch(0), LOST);
            T.due("time then", x.count(1), 90);
        });
        T.test("23", "NONE if nothing was given.", () -> {
            PassingFrames x = telling(1);
            T.due("one", x.fetch(0), 11);
            T.due("none", x.fetch(0), NONE);
            T.due("a frame was sent all the same", x.count(1), 60);
            x.lose(1);
            T.due("none, and lost", x.fetch(0), LOST);
        });
    }

    private static void fetchRefused() {
        T.test("23", "BAD if there is no such device", () -> {
            T.refused("fetch(-1)", BAD, Edges::busy, x -> x.fetch(-1));
            T.refused("fetch(4)", BAD, Edges::busy, x -> x.fetch(4));
            T.refused("fetch(4) with all wires cut", BAD, () -> Edges.cut(telling(1), 0, 4), x -> x.fetch(4));
        });
        T.test("23", "NO if the master does not talk to it (nothing is sent)", () -> {
            T.refused("in INIT", NO, PassingFrames::new, x -> x.fetch(0));
            T.refused("in INIT, with losses", NO, Edges::busy, x -> x.fetch(3));
            T.refused("on no side", NO, () -> Edges.cut(telling(1), 0, 4), x -> x.fetch(0));
            T.refused("on no side, with losses", NO, () -> losing(Edges.cut(telling(1), 0, 1)), x -> x.fetch(0));
        });
    }

    private static PassingFrames losing(PassingFrames x) {
        x.lose(1);
        return x;
    }

    private static void push() {
        T.test("24", "d: a device", () -> T.range("push", 0, 3, Edges::busy, (x, d) -> x.push(d, 1)));
        T.test("24", "v: the message, 1 to 255", () -> T.range("push", 1, 255, Edges::busy, (x, v) -> x.push(0, v)));
        T.test("24", "The master pushes a message to the inbox of a device by a frame (PUSH above).", () -> {
            PassingFrames x = Edges.prepared();
            x.put(0, 0, 9);
            x.gram(0, 8, 0, 4, 1);
            x.push(0, 5);
            T.due("time", x.count(1), 30);
            T.due("it edits no bytes", x.memory(0, 4), 0);
            T.due("no datagram comes home", x.home(0, -1), NONE);
            T.due("take()", x.take(0), 5);
            T.due("take() of another", x.take(1), NONE);
        });
        T.test("24", "Returns how many messages the inbox has then", () -> {
            PassingFrames x = Edges.prepared();
            for (int n = 1; n <= 4; n++) {
                T.due("push()", x.push(0, n == 1 ? 1 : 255), n);
                T.due("time", x.count(1), 30 * n);
            }
            T.due("take()", x.take(0), 1);
            T.due("take()", x.take(0), 255);
            T.due("push() behind two", x.push(0, 1), 3);
        });
        T.test("24", "LOST if the frame was lost (the message is pending then)", () -> {
            PassingFrames x = losing(Edges.prepared());
            T.due("the first", x.push(0, 255), LOST);
            T.due("pending", x.box(0, 7), 255);
            T.due("in the inbox", x.box(0, 1), 1);
            T.due("time", x.count(1), 30);
            x = losing(pushed(4));
            T.due("to a full inbox", x.push(0, 1), LOST);
            T.due("pending too", x.box(0, 7), 1);
            T.due("not in the inbox", x.box(0, 1), 4);
        });
        T.test("24", "FULL if it came home that the message was not accepted (it is not pending).", () -> {
            T.due("with 3", pushed(3).push(0, 99), 4);
            PassingFrames x = pushed(4);
            T.due("with 4", x.push(0, 99), FULL);
            T.due("not pending", x.box(0, 7), NONE);
            T.due("time", x.count(1), 150);
            T.due("again()", x.again(0), NO);
        });
    }

    private static void pushRefused() {
        T.test("24", "BAD if there is no such device or v is out of range", () -> {
            T.refused("push(4, 1)", BAD, Edges::busy, x -> x.push(4, 1));
            T.refused("push(0, 0)", BAD, Edges::busy, x -> x.push(0, 0));
            T.refused("push(0, 256)", BAD, Edges::busy, x -> x.push(0, 256));
            T.refused("push(3, 256) in INIT", BAD, Edges::busy, x -> x.push(3, 256));
            T.refused("push(1, 0) while one is pending", BAD, Edges::busy, x -> x.push(1, 0));
            T.refused("push(0, 0) to a full inbox", BAD, () -> pushed(4), x -> x.push(0, 0));
        });
        T.test("24", "NO if the master does not talk to it, or a message is pending for it (nothing is sent)", () -> {
            T.refused("in INIT", NO, PassingFrames::new, x -> x.push(0, 1));
            T.refused("in INIT, with losses", NO, Edges::busy, x -> x.push(3, 1));
            T.refused("on no side", NO, () -> losing(Edges.cut(telling(1), 0, 4)), x -> x.push(0, 1));
            T.refused("while one is pending, with losses", NO, Edges::busy, x -> x.push(1, 33));
            T.refused("to a full inbox while one is pending", NO, () -> pendingBehind(4), x -> x.push(0, 1));
            T.due("to another device", pendingBehind(4).push(1, 1), 1);
        });
    }

    /** Device 0 has some messages in its inbox, and the master has one, 99, pending behind them. */
    private static PassingFrames pendingBehind(int messages) {
        PassingFrames x = losing(pushed(messages));
        x.push(0, 99);
        return x;
    }

    private static void again() {
        T.test("25", "d: a device", () -> {
            T.range("again", 0, 3, Edges::busy, (x, d) -> x.again(d));
            T.due("of the pending one", pendingBehind(0).again(0), 1);
        });
        T.test("25", "The master pushes the pending message to the inbox of a device once more by a frame (PUSH"
                + " above).", () -> {
            PassingFrames x = pendingBehind(4);
            int time = x.count(1);
            for (int v = 21; v <= 24; v++) {
                T.due("take()", x.take(0), v);
            }
            T.due("again()", x.again(0), 1);
            T.due("time", x.count(1), time + 30);
            T.due("take() of the pending one", x.take(0), 99);
        });
        T.test("25", "Returns how many messages the inbox has then (nothing is pending any more)", () -> {
            for (int n = 0; n <= 3; n++) {
                PassingFrames x = pendingBehind(n);
                T.due("again() behind " + n, x.again(0), n + 1);
                T.due("pending", x.box(0, 7), NONE);
                T.due("again() once more", x.again(0), NO);
            }
            PassingFrames x = pendingBehind(4);
            x.take(0);
            T.due("again() when there is room", x.again(0), 4);
            T.due("pending then", x.box(0, 7), NONE);
        });
        T.test("25", "LOST if the frame was lost", () -> {
            for (int n = 0; n <= 4; n++) {
                PassingFrames x = losing(pendingBehind(n));
                int time = x.count(1);
                T.due("again() behind " + n, x.again(0), LOST);
                T.due("it stays pending", x.box(0, 7), 99);
                T.due("time", x.count(1), time + 30);
                T.due("again() then", x.again(0), n == 4 ? FULL : n + 1);
            }
        });
        T.test("25", "FULL if it came home that the message was not accepted (in both cases it stays pending).", () -> {
            PassingFrames x = pendingBehind(4);
            T.due("with 4", x.again(0), FULL);
            T.due("pending", x.box(0, 7), 99);
            T.due("with 4, once more", x.again(0), FULL);
            x.take(0);
            T.due("with 3", x.again(0), 4);
            T.due("pending then", x.box(0, 7), NONE);
        });
    }

    private static void againRefused() {
        T.test("25", "BAD if there is no such device", () -> {
            T.refused("again(-1)", BAD, Edges::busy, x -> x.again(-1));
            T.refused("again(4)", BAD, Edges::busy, x -> x.again(4));
        });
        T.test("25", "NO if the master does not talk to it, or no message is pending for it (nothing is sent)", () -> {
            T.refused("at first", NO, PassingFrames::new, x -> x.again(0));
            T.refused("of none", NO, Edges::prepared, x -> x.again(0));
            T.refused("of none, with losses", NO, Edges::busy, x -> x.again(0));
            T.refused("of that of another", NO, () -> pendingBehind(1), x -> x.again(1));
            T.refused("on no side", NO, () -> losing(Edges.cut(pendingBehind(1), 0, 1)), x -> x.again(0));
            T.refused("on no side with a full inbox", NO, () -> Edges.cut(pendingBehind(4), 0, 4), x -> x.again(0));
            PassingFrames x = Edges.cut(pendingBehind(1), 0, 1);
            x.cut(0, 0);
            T.due("on a side again", x.again(0), 2);
        });
    }

    private static void box() {
        T.test("26", "d: a device", () -> T.range("box", 0, 3, Edges::busy, (x, d) -> x.box(d, 0)));
        T.test("26", "what: 0 number of messages of its outbox, 1 of its inbox, 2 the bit of its outbox, 3 of its"
                + " inbox", () -> {
            T.range("box", 0, 7, Edges::busy, (x, what) -> x.box(0, what));
            T.row("boxes of 0", boxes(Edges.busy(), 0), 1, 2, 1, 0, 0, 1, 21, NONE);
            T.row("boxes of 1", boxes(Edges.busy(), 1), 0, 1, 0, 1, 1, 1, NONE, 33);
            T.row("boxes of 3", boxes(Edges.busy(), 3), 1, 0, 0, 0, 1, 1, NONE, NONE);
            PassingFrames x = telling(4);
            T.due("a full outbox", x.box(0, 0), 4);
            T.due("a full inbox", pushed(4).box(0, 1), 4);
        });
        T.test("26", "4 the master's bit for the outbox, 5 for the inbox", () -> {
            PassingFrames x = telling(2);
            x.fetch(0);
            T.row("bits after a fetch()", new int[] {x.box(0, 2), x.box(0, 3), x.box(0, 4), x.box(0, 5)}, 1, 0, 0, 1);
            x.push(0, 5);
            T.row("bits after a push()", new int[] {x.box(0, 2), x.box(0, 3), x.box(0, 4), x.box(0, 5)}, 1, 1, 0, 0);
            x.fetch(0);
            x.push(0, 5);
            T.row("bits after two each", new int[] {x.box(0, 2), x.box(0, 3), x.box(0, 4), x.box(0, 5)}, 0, 0, 1, 1);
        });
        T.test("26", "6 its last message (NONE if there is none)", () -> {
            T.due("none", telling(1).box(0, 6), NONE);
            for (int v : new int[] {1, 255}) {
                PassingFrames x = Edges.prepared();
                x.tell(0, v);
                x.fetch(0);
                T.due("message " + v, x.box(0, 6), v);
            }
        });
        T.test("26", "7 the message that is pending for it (NONE if there is none)", () -> {
            T.due("none", pushed(1).box(0, 7), NONE);
            for (int v : new int[] {1, 255}) {
                PassingFrames x = losing(Edges.prepared());
                x.push(0, v);
                T.due("message " + v, x.box(0, 7), v);
            }
        });
        T.test("26", "BAD if there is no such device or what is not 0 to 7.", () -> {
            T.refused("box(-1, 0)", BAD, Edges::busy, x -> x.box(-1, 0));
            T.refused("box(4, 6)", BAD, Edges::busy, x -> x.box(4, 6));
            T.refused("box(0, -1)", BAD, Edges::busy, x -> x.box(0, -1));
            T.refused("box(0, 8)", BAD, Edges::busy, x -> x.box(0, 8));
        });
    }
}
