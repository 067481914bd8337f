/** Promises 21 to 26: the mailboxes. */
public final class BoxTest {
    private static final int BAD = -1, NO = -2, FULL = -3, NONE = -4, LOST = -5;
    private static final Check CHECK = new Check("BoxTest");

    public static void main(String[] args) {
        tell();
        take();
        fetch();
        fetchLost();
        push();
        pushLost();
        pushFull();
        again();
        notTalkedTo();
        times();
        box();
        CHECK.finish();
    }

    private static void due(String call, int got, int want) {
        CHECK.due(call, got, want);
    }

    private static PassingFrames prepared() {
        PassingFrames x = new PassingFrames();
        for (int d = 0; d < 4; d++) {
            x.state(d, 1);
        }
        return x;
    }

    private static void boxes(String when, PassingFrames x, int d, int... want) {
        for (int what = 0; what < want.length; what++) {
            due(when + ": box(" + d + ", " + what + ")", x.box(d, what), want[what]);
        }
    }

    private static void tell() {
        PassingFrames x = new PassingFrames();
        due("tell(-1, 1)", x.tell(-1, 1), BAD);
        due("tell(4, 1)", x.tell(4, 1), BAD);
        due("tell(0, 0)", x.tell(0, 0), BAD);
        due("tell(0, 256)", x.tell(0, 256), BAD);
        due("tell(0, 1) in INIT", x.tell(0, 1), 1);
        due("tell(0, 255)", x.tell(0, 255), 2);
        due("tell(0, 3)", x.tell(0, 3), 3);
        due("tell(0, 4)", x.tell(0, 4), 4);
        due("tell(0, 5)", x.tell(0, 5), FULL);
        due("tell(0, 0) when full", x.tell(0, 0), BAD);
        due("tell(1, 5)", x.tell(1, 5), 1);
        due("no time passes", x.count(1), 0);
        x.state(0, 1);
        int[] given = {1, 255, 3, 4, NONE};
        for (int want : given) {
            due("fetch(0)", x.fetch(0), want);
        }
    }

    private static void take() {
        PassingFrames x = prepared();
        due("take(-1)", x.take(-1), BAD);
        due("take(4)", x.take(4), BAD);
        due("take(0)", x.take(0), NONE);
        x.push(0, 5);
        x.push(0, 255);
        x.push(0, 1);
        due("take(1)", x.take(1), NONE);
        due("take(0)", x.take(0), 5);
        due("push behind it", x.push(0, 7), 3);
        x.cut(0, 1);
        x.cut(4, 1);
        int time = x.count(1);
        due("take(0) on no side", x.take(0), 255);
        due("take(0)", x.take(0), 1);
        due("take(0)", x.take(0), 7);
        due("take(0) of none", x.take(0), NONE);
        due("no time passes", x.count(1), time);
    }

    private static void fetch() {
        PassingFrames x = prepared();
        due("fetch(-1)", x.fetch(-1), BAD);
        due("fetch(4)", x.fetch(4), BAD);
        due("fetch(0) of none", x.fetch(0), NONE);
        boxes("nothing given", x, 0, 0, 0, 0, 0, 1, 1, NONE, NONE);
        x.tell(0, 8);
        x.tell(0, 9);
        due("fetch(0)", x.fetch(0), 8);
        boxes("8 given", x, 0, 1, 0, 1, 0, 0, 1, 8, NONE);
        due("fetch(0)", x.fetch(0), 9);
        boxes("9 given", x, 0, 0, 0, 0, 0, 1, 1, 9, NONE);
        due("fetch(0) of none any more", x.fetch(0), NONE);
        boxes("none given", x, 0, 0, 0, 0, 0, 1, 1, 9, NONE);
        x.lose(1);
        due("fetch(0) of none, lost", x.fetch(0), LOST);
        boxes("none given, lost", x, 0, 0, 0, 0, 0, 1, 1, 9, NONE);
        due("others are not touched", x.box(1, 6), NONE);
    }

    private static void fetchLost() {
        PassingFrames x = prepared();
        x.tell(2, 8);
        x.tell(2, 9);
        x.lose(2);
        due("fetch(2)", x.fetch(2), LOST);
        boxes("8 lost", x, 2, 1, 0, 1, 0, 1, 1, 8, NONE);
        due("fetch(2)", x.fetch(2), LOST);
        boxes("8 lost again", x, 2, 1, 0, 1, 0, 1, 1, 8, NONE);
        due("fetch(2)", x.fetch(2), 8);
        boxes("8 given", x, 2, 1, 0, 1, 0, 0, 1, 8, NONE);
        x.lose(1);
        due("fetch(2)", x.fetch(2), LOST);
        boxes("9 lost", x, 2, 0, 0, 0, 0, 0, 1, 9, NONE);
        due("fetch(2) with an empty outbox", x.fetch(2), 9);
        boxes("9 given", x, 2, 0, 0, 0, 0, 1, 1, 9, NONE);
        due("fetch(2)", x.fetch(2), NONE);
    }

    private static void push() {
        PassingFrames x = prepared();
        due("push(-1, 1)", x.push(-1, 1), BAD);
        due("push(4, 1)", x.push(4, 1), BAD);
        due("push(0, 0)", x.push(0, 0), BAD);
        due("push(0, 256)", x.push(0, 256), BAD);
        due("push(0, 255)", x.push(0, 255), 1);
        boxes("one pushed", x, 0, 0, 1, 0, 1, 1, 0, NONE, NONE);
        due("push(0, 1)", x.push(0, 1), 2);
        boxes("two pushed", x, 0, 0, 2, 0, 0, 1, 1, NONE, NONE);
        due("take(0)", x.take(0), 255);
        due("take(0)", x.take(0), 1);
        due("others are not touched", x.box(1, 5), 1);
    }

    private static void pushLost() {
        PassingFrames x = prepared();
        x.lose(1);
        due("push(0, 3)", x.push(0, 3), LOST);
        boxes("3 lost", x, 0, 0, 1, 0, 1, 1, 1, NONE, 3);
        int time = x.count(1);
        due("push(0, 4)", x.push(0, 4), NO);
        due("push(0, 0) is bad before", x.push(0, 0), BAD);
        due("nothing was sent", x.count(1), time);
        due("push to another", x.push(1, 4), 1);
        due("take(0) meanwhile", x.take(0), 3);
        due("again(0)", x.again(0), 0);
        boxes("3 came home", x, 0, 0, 0, 0, 1, 1, 0, NONE, NONE);
        due("push(0, 4)", x.push(0, 4), 1);
    }

    private static void pushFull() {
        PassingFrames x = prepared();
        for (int v = 1; v <= 4; v++) {
            due("push(0, " + v + ")", x.push(0, v), v);
        }
        due("push(0, 5)", x.push(0, 5), FULL);
        boxes("not accepted", x, 0, 0, 4, 0, 0, 1, 1, NONE, NONE);
        x.lose(2);
        due("push(0, 5) lost", x.push(0, 5), LOST);
        boxes("not accepted and lost", x, 0, 0, 4, 0, 0, 1, 1, NONE, 5);
        due("again(0) lost", x.again(0), LOST);
        due("again(0)", x.again(0), FULL);
        boxes("it stays pending", x, 0, 0, 4, 0, 0, 1, 1, NONE, 5);
        due("take(0)", x.take(0), 1);
        due("again(0)", x.again(0), 4);
        boxes("accepted", x, 0, 0, 4, 0, 1, 1, 0, NONE, NONE);
        for (int v = 2; v <= 5; v++) {
            due("take(0)", x.take(0), v);
        }
    }

    private static void again() {
        PassingFrames x = prepared();
        due("again(-1)", x.again(-1), BAD);
        due("again(4)", x.again(4), BAD);
        due("again(0)", x.again(0), NO);
        due("nothing was sent", x.count(1), 0);
        x.lose(3);
        x.push(0, 9);
        due("again(0)", x.again(0), LOST);
        due("again(0)", x.again(0), LOST);
        boxes("still pending", x, 0, 0, 1, 0, 1, 1, 1, NONE, 9);
        due("again(0)", x.again(0), 1);
        boxes("once in the inbox", x, 0, 0, 1, 0, 1, 1, 0, NONE, NONE);
        due("again(0)", x.again(0), NO);
    }

    private static void notTalkedTo() {
        PassingFrames x = new PassingFrames();
        due("fetch in INIT", x.fetch(1), NO);
        due("push in INIT", x.push(1, 1), NO);
        due("again in INIT", x.again(1), NO);
        due("push of a bad message in INIT", x.push(1, 256), BAD);
        due("nothing was sent", x.count(1), 0);
        x.state(1, 1);
        x.tell(1, 9);
        x.lose(1);
        x.push(1, 1);
        x.cut(1, 1);
        due("fetch on the B side", x.fetch(1), 9);
        int time = x.count(1);
        x.cut(2, 1);
        due("fetch on no side", x.fetch(1), NO);
        due("again on no side", x.again(1), NO);
        due("push on no side", x.push(1, 1), NO);
        due("nothing was sent", x.count(1), time);
        x.cut(1, 0);
        due("again on the A side", x.again(1), 1);
        x.state(1, 0);
        due("fetch in INIT again", x.fetch(1), NO);
    }

    private static void times() {
        PassingFrames x = prepared();
        x.gram(0, 8, 0, 4, 1);
        x.put(0, 0, 5);
        x.fetch(0);
        due("a fetch takes the trip", x.count(1), 30);
        x.push(0, 1);
        due("a push takes the trip", x.count(1), 60);
        x.lose(2);
        x.push(0, 1);
        due("a lost push takes the trip", x.count(1), 90);
        x.fetch(0);
        due("a lost fetch takes the trip", x.count(1), 120);
        x.cut(1, 1);
        x.again(0);
        due("an again takes the trip", x.count(1), 120 + x.count(12));
        due("they carry no datagrams", x.memory(0, 4), 0);
        due("and nothing of them is remembered", x.count(6), 0);
    }

    private static void box() {
        PassingFrames x = prepared();
        due("box(-1, 0)", x.box(-1, 0), BAD);
        due("box(4, 0)", x.box(4, 0), BAD);
        due("box(0, -1)", x.box(0, -1), BAD);
        due("box(0, 8)", x.box(0, 8), BAD);
        boxes("at first", x, 3, 0, 0, 0, 0, 1, 1, NONE, NONE);
        x.tell(3, 4);
        x.tell(3, 5);
        x.tell(3, 6);
        x.push(3, 7);
        x.fetch(3);
        x.lose(1);
        x.push(3, 255);
        boxes("then", x, 3, 2, 2, 1, 0, 0, 0, 4, 255);
    }
}
