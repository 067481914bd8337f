/** The sentences of ERRORS, each with a test of its own. */
public final class EdgesOfErrorsTest {
    private static final int BAD = -1, NO = -2, FULL = -3, NONE = -4, LOST = -5;
    private static final Edges T = new Edges("EdgesOfErrorsTest");

    public static void main(String[] args) {
        codes();
        badBeforeNo();
        badBeforeFull();
        noBeforeLost();
        lostBeforeFull();
        noneIsLast();
        changesNothing();
        frameWasSent();
        T.finish();
    }

    private static void codes() {
        T.test("ERRORS", "BAD (-1): an argument is out of its range, or there is no such device, wire or"
                + " datagram.", () -> {
            T.due("BAD", PassingFrames.BAD, -1);
            T.due("an argument", new PassingFrames().lose(10), BAD);
            T.due("a device", new PassingFrames().device(4, 0), BAD);
            T.due("a wire", new PassingFrames().cut(5, 1), BAD);
            T.due("a datagram", new PassingFrames().clear(4), BAD);
            T.due("a device that is there in a longer ring", Edges.even(5).device(4, 0), 5);
            T.due("a wire that is there in a longer ring", Edges.even(5).cut(5, 1), 1);
            T.due("a device that is not there in a shorter ring", Edges.even(3).device(3, 0), BAD);
            T.due("a wire that is not there in a shorter ring", Edges.even(3).cut(4, 1), BAD);
        });
        T.test("ERRORS", "NO (-2): the call is not possible in the present state.", () -> {
            T.due("NO", PassingFrames.NO, -2);
            T.due("lay() of nothing", new PassingFrames().lay(), NO);
        });
        T.test("ERRORS", "FULL (-3): there is no room left.", () -> {
            T.due("FULL", PassingFrames.FULL, -3);
            T.due("tell() behind four", fullBoxes().tell(0, 1), FULL);
        });
        T.test("ERRORS", "LOST (-5): a frame was lost.", () -> {
            T.due("LOST", PassingFrames.LOST, -5);
            T.due("send()", losing(sending()).send(), LOST);
        });
        T.test("ERRORS", "NONE (-4) means \"there is none\".", () -> {
            T.due("NONE", PassingFrames.NONE, -4);
            T.due("fault()", new PassingFrames().fault(), NONE);
        });
    }

    private static PassingFrames losing(PassingFrames x) {
        x.lose(1);
        return x;
    }

    private static PassingFrames sending() {
        PassingFrames x = Edges.prepared();
        x.gram(0, 8, 0, 4, 1);
        x.put(0, 0, 9);
        return x;
    }

    /** Both boxes of device 0 have four messages, and none is pending. */
    private static PassingFrames fullBoxes() {
        PassingFrames x = Edges.prepared();
        for (int v = 1; v <= 4; v++) {
            x.tell(0, v);
            x.push(0, v);
        }
        return x;
    }

    /** As fullBoxes, and a fifth message is pending. */
    private static PassingFrames fullAndPending() {
        PassingFrames x = losing(fullBoxes());
        x.push(0, 99);
        return x;
    }

    private static void badBeforeNo() {
        T.test("ERRORS", "Each method names these values in the order in which they are checked, and the first one that"
                + " applies is returned", () -> {
            Edges.Make apart = () -> Edges.cut(Edges.prepared(), 0, 4);
            T.refused("cut: a wire that is cut, and 2", BAD, apart, x -> x.cut(0, 2));
            T.refused("cut: a wire that is not cut, and -1", BAD, apart, x -> x.cut(1, -1));
            T.refused("state: on no side, and 4", BAD, apart, x -> x.state(0, 4));
            T.refused("state: on no side, and -1", BAD, apart, x -> x.state(0, -1));
            T.refused("map: places of another, and byte 16", BAD, Edges::busy, x -> x.map(3, 0, 4, 1, 16));
            T.refused("map: places of another, and byte 3 to be written", BAD, Edges::busy, x -> x.map(3, 1, 2, 1, 3));
            T.refused("unmap: no map, and sort 2", BAD, Edges::busy, x -> x.unmap(3, 2));
            T.refused("clear: no command, and no datagram", BAD, PassingFrames::new, x -> x.clear(4));
            T.refused("fetch: no device, and all on no side", BAD, apart, x -> x.fetch(4));
            T.refused("push: on no side, and message 0", BAD, apart, x -> x.push(0, 0));
            T.refused("push: in INIT, and message 256", BAD, PassingFrames::new, x -> x.push(0, 256));
            T.refused("push: one is pending, and message 256", BAD, Edges::busy, x -> x.push(1, 256));
            T.refused("again: no device, and none is pending", BAD, apart, x -> x.again(4));
            T.refused("steer: no A side, and step 0", BAD, apart, x -> x.steer(0));
            T.refused("steer: no A side, and step 100", BAD, apart, x -> x.steer(100));
        });
    }

    private static void badBeforeFull() {
        T.test("ERRORS", "in the order in which they are checked", () -> {
            PassingFrames text = new PassingFrames();
            Check.write(text, "e".repeat(200));
            T.due("write: a full text, and 31", text.write(31), BAD);
            T.due("write: a full text, and 127", text.write(127), BAD);
            T.refused("tell: a full outbox, and message 0", BAD, EdgesOfErrorsTest::fullBoxes, x -> x.tell(0, 0));
            T.refused("tell: a full outbox, and message 256", BAD, EdgesOfErrorsTest::fullBoxes, x -> x.tell(0, 256));
            T.refused("push: a full inbox, and message 0", BAD, EdgesOfErrorsTest::fullBoxes, x -> x.push(0, 0));
        });
    }

    private static void noBeforeLost() {
        T.test("ERRORS", "the first one that applies is returned", () -> {
            Edges.Make apart = () -> losing(Edges.cut(fullAndPending(), 0, 1));
            T.refused("send: no command, and a loss", NO, () -> losing(Edges.prepared()), PassingFrames::send);
            T.refused("fetch: on no side, and a loss", NO, apart, x -> x.fetch(0));
            T.refused("fetch: in INIT, and a loss", NO, () -> losing(new PassingFrames()), x -> x.fetch(0));
            T.refused("fetch: no device, and a loss", BAD, apart, x -> x.fetch(-1));
            T.refused("push: on no side, and a loss", NO, apart, x -> x.push(0, 1));
            T.refused("push: message 0, and a loss", BAD, apart, x -> x.push(1, 0));
            T.refused("push: one is pending, and a loss", NO, () -> losing(fullAndPending()), x -> x.push(0, 1));
            T.refused("push: one is pending, and a full inbox", NO, () -> fullAndPending(), x -> x.push(0, 1));
            T.refused("again: on no side, and a loss", NO, apart, x -> x.again(0));
            T.refused("again: none is pending, and a loss", NO, () -> losing(fullBoxes()), x -> x.again(0));
            T.refused("again: no device, and a loss", BAD, apart, x -> x.again(4));
        });
    }

    private static void lostBeforeFull() {
        T.test("ERRORS", "and the first one that applies is returned", () -> {
            T.due("push: a full inbox, and a loss", losing(fullBoxes()).push(0, 1), LOST);
            T.due("push: a full inbox, and no loss", fullBoxes().push(0, 1), FULL);
            T.due("again: a full inbox, and a loss", losing(fullAndPending()).again(0), LOST);
            T.due("again: a full inbox, and no loss", fullAndPending().again(0), FULL);
        });
    }

    private static void noneIsLast() {
        T.test("ERRORS", "NONE is returned only if none of the error codes named before it applies.", () -> {
            T.due("fetch: nothing is given, and a loss", losing(Edges.prepared()).fetch(0), LOST);
            T.due("fetch: nothing is given, and INIT", new PassingFrames().fetch(0), NO);
            T.due("fetch: nothing is given, and no loss", Edges.prepared().fetch(0), NONE);
            T.due("mapped: no map, and 3", new PassingFrames().mapped(0, 0, 3), BAD);
            T.due("mapped: no map, and sort 2", new PassingFrames().mapped(0, 2, 0), BAD);
            T.due("mapped: no map", new PassingFrames().mapped(0, 0, 2), NONE);
            T.due("home: nothing has come home, and byte 8", new PassingFrames().home(0, 8), BAD);
            T.due("home: nothing has come home, and datagram 4", new PassingFrames().home(4, 0), BAD);
            T.due("home: nothing has come home", new PassingFrames().home(0, 7), NONE);
            T.due("expected: no command, and datagram 4", new PassingFrames().expected(4), BAD);
            T.due("expected: no command", new PassingFrames().expected(3), NONE);
            T.due("take: no message, and no device", new PassingFrames().take(4), BAD);
            T.due("take: no message", new PassingFrames().take(3), NONE);
            T.due("box: no message, and no device", new PassingFrames().box(4, 6), BAD);
            T.due("box: no message", new PassingFrames().box(3, 6), NONE);
        });
    }

    private static void changesNothing() {
        T.test("ERRORS", "A call that returns one of them changes nothing,", () -> {
            T.refused("write", BAD, Edges::busy, x -> x.write(127));
            T.refused("lay", NO, Edges::busy, PassingFrames::lay);
            T.refused("own", BAD, Edges::busy, x -> x.own(0, 3, 9));
            T.refused("cut", NO, Edges::busy, x -> x.cut(3, 1));
            T.refused("lose", BAD, Edges::busy, x -> x.lose(10));
            T.refused("state", NO, Edges::busy, x -> x.state(3, 2));
            T.refused("map", NO, Edges::busy, x -> x.map(1, 0, 3, 2, 4));
            T.refused("unmap", NO, Edges::busy, x -> x.unmap(3, 0));
            T.refused("mapped", NONE, Edges::busy, x -> x.mapped(3, 0, 0));
            T.refused("gram", BAD, Edges::busy, x -> x.gram(0, 12, 25, 0, 8));
            T.refused("clear", NO, Edges::busy, x -> x.clear(3));
            T.refused("put", BAD, Edges::busy, x -> x.put(0, 0, 256));
            T.refused("home", NONE, Edges::busy, x -> x.home(1, 2));
            T.refused("expected", NONE, Edges::busy, x -> x.expected(3));
            T.refused("tell", FULL, EdgesOfErrorsTest::fullBoxes, x -> x.tell(0, 9));
            T.refused("take", NONE, Edges::busy, x -> x.take(3));
            T.refused("fetch", NO, Edges::busy, x -> x.fetch(3));
            T.refused("push", NO, Edges::busy, x -> x.push(1, 9));
            T.refused("again", NO, Edges::busy, x -> x.again(0));
            T.refused("later", BAD, Edges::busy, x -> x.later(10000));
            T.refused("level", NO, () -> Edges.cut(Edges.busy(), 0), PassingFrames::level);
            T.refused("steer", NO, () -> Edges.cut(Edges.busy(), 1), x -> x.steer(9));
        });
    }

    private static void frameWasSent() {
        T.test("ERRORS", "except when a frame was sent.", () -> {
            PassingFrames x = losing(sending());
            T.due("send()", x.send(), LOST);
            T.row("time, losses and a byte", new int[] {x.count(1), x.count(7), x.memory(3, 4)}, 30, 0, 9);
            x = losing(fullBoxes());
            T.due("fetch()", x.fetch(0), LOST);
            T.row("time, losses and the outbox", new int[] {x.count(1), x.count(7), x.box(0, 0)}, 150, 0, 3);
            x = losing(Edges.prepared());
            T.due("push()", x.push(0, 5), LOST);
            T.row("time, losses and the inbox", new int[] {x.count(1), x.count(7), x.box(0, 1)}, 30, 0, 1);
            x = fullBoxes();
            T.due("push() to a full inbox", x.push(0, 5), FULL);
            T.row("time and the inbox", new int[] {x.count(1), x.box(0, 1)}, 150, 4);
            x = Edges.prepared();
            T.due("fetch() of nothing", x.fetch(0), NONE);
            T.due("time", x.count(1), 30);
            x = losing(fullAndPending());
            T.due("again()", x.again(0), LOST);
            T.row("time and losses", new int[] {x.count(1), x.count(7)}, 180, 0);
            T.due("again() to a full inbox", x.again(0), FULL);
            T.due("time then", x.count(1), 210);
        });
    }
}
