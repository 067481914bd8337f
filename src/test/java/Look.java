import java.util.ArrayList;
import java.util.List;

/**
 * What an object answers when it is asked for all that it tells, and when it is used on. Two objects that have come to
 * the same state answer alike. Neither of the two takes 512 calls, as an object is used for no more.
 */
final class Look {
    private final PassingFrames x;
    private final int devices;
    private final List<String> answers = new ArrayList<>();

    private Look(PassingFrames x) {
        this.x = x;
        devices = x.count(0);
    }

    /** All that the object tells without being changed. */
    static List<String> told(PassingFrames x) {
        Look look = new Look(x);
        look.counts();
        for (int d = 0; d < look.devices; d++) {
            look.device(d);
        }
        look.datagrams();
        return look.answers;
    }

    /** The answers to a run of calls that use what the object does not tell: messages, bytes to be sent, the text. */
    static List<String> following(PassingFrames x) {
        Look look = new Look(x);
        look.frames();
        for (int d = 0; d < look.devices; d++) {
            look.messages(d);
        }
        look.setBytes();
        look.clocks();
        look.wires();
        look.text();
        return look.answers;
    }

    private void add(String call, int answer) {
        answers.add(call + " = " + answer);
    }

    private void counts() {
        for (int what = 0; what <= 12; what++) {
            add("count(" + what + ")", x.count(what));
        }
        add("fault()", x.fault());
        add("apart()", x.apart());
    }

    private void device(int d) {
        for (int what = 0; what <= 5; what++) {
            add("device(" + d + ", " + what + ")", x.device(d, what));
        }
        for (int b = 0; b <= 15; b++) {
            add("memory(" + d + ", " + b + ")", x.memory(d, b));
        }
        for (int what = 0; what <= 7; what++) {
            add("box(" + d + ", " + what + ")", x.box(d, what));
        }
        for (int what = 0; what <= 3; what++) {
            add("clock(" + d + ", " + what + ")", x.clock(d, what));
        }
        for (int what = 0; what <= 2; what++) {
            add("mapped(" + d + ", 0, " + what + ")", x.mapped(d, 0, what));
            add("mapped(" + d + ", 1, " + what + ")", x.mapped(d, 1, what));
        }
    }

    private void datagrams() {
        for (int i = 0; i <= 3; i++) {
            for (int k = -1; k <= 7; k++) {
                add("home(" + i + ", " + k + ")", x.home(i, k));
            }
            add("expected(" + i + ")", x.expected(i));
        }
    }

    private void frames() {
        for (int lost = x.count(7); lost >= 0; lost--) {
            add("send()", x.send());
        }
        datagrams();
        for (int d = 0; d < devices; d++) {
            for (int b = 4; b <= 15; b++) {
                add("memory(" + d + ", " + b + ")", x.memory(d, b));
            }
        }
    }

    private void messages(int d) {
        add("again(" + d + ")", x.again(d));
        add("push(" + d + ", 77)", x.push(d, 77));
        add("tell(" + d + ", 88)", x.tell(d, 88));
        for (int i = 0; i < 5; i++) {
            add("fetch(" + d + ")", x.fetch(d));
            add("take(" + d + ")", x.take(d));
        }
    }

    private void setBytes() {
        for (int i = 0; i <= 3; i++) {
            for (int k = 0; k <= 7; k++) {
                add("put(" + i + ", " + k + ", 0)", x.put(i, k, 0));
            }
            add("clear(" + i + ")", x.clear(i));
        }
    }

    private void clocks() {
        add("level()", x.level());
        add("steer(3)", x.steer(3));
        add("count(1)", x.count(1));
        add("apart()", x.apart());
    }

    private void wires() {
        for (int w = 0; w <= devices; w++) {
            add("cut(" + w + ", 1)", x.cut(w, 1));
        }
    }

    private void text() {
        add("fault()", x.fault());
        add("write(;)", x.write(';'));
        add("fault() then", x.fault());
        add("lay()", x.lay());
        for (int d = 0; d < x.count(0); d++) {
            add("number of " + d, x.device(d, 0));
        }
        add("wipe()", x.wipe());
    }
}
