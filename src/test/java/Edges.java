import java.util.ArrayList;
import java.util.List;

/**
 * Tests by sentence: each one names the place and the words of the document that it holds the class to. The places are
 * the headings of the description and the numbers of the promises.
 */
final class Edges {
    static final int BAD = -1, NO = -2, FULL = -3, NONE = -4, LOST = -5, ZERO = 100000000;
    static final String FIRST_RING = "d1130005;d2250204;d3341003;d0720504;e432;";
    static final String EIGHT = "d0110004;d0210004;d0310004;d0410004;d0510004;d0610004;d0710004;d0810004;";

    /** Makes an object in a certain state, the same one each time. */
    interface Make {
        PassingFrames ring();
    }

    /** A call with all of its arguments. */
    interface Call {
        int on(PassingFrames x);
    }

    /** A call with all of its arguments but one. */
    interface CallWith {
        int on(PassingFrames x, int argument);
    }

    /** The place and the words of each test, in the order of their calls. */
    static final List<String[]> NAMED = new ArrayList<>();
    private static boolean onlyNames;

    private final Check check;
    private final String name;
    private String sentence = "";
    private int sentences;

    Edges(String name) {
        this.name = name;
        check = new Check(name);
    }

    /** From now on the tests are named, but not run. */
    static void nameOnly() {
        onlyNames = true;
    }

    void test(String place, String words, Runnable body) {
        NAMED.add(new String[] {place, words});
        sentence = place + " \"" + words + "\": ";
        sentences++;
        if (!onlyNames) {
            body.run();
        }
    }

    void due(String call, int got, int want) {
        check.due(sentence + call, got, want);
    }

    void notBad(String call, int got) {
        check.isTrue(sentence + call + " is not BAD", got != BAD);
    }

    /** Several answers, as a row. */
    void row(String calls, int[] got, int... want) {
        due(calls + ": number of answers", got.length, want.length);
        for (int i = 0; i < Math.min(got.length, want.length); i++) {
            due(calls + "[" + i + "]", got[i], want[i]);
        }
    }

    /** The call answers with an error code and changes nothing: the object goes on like one that was not called. */
    void refused(String call, int want, Make make, Call refused) {
        PassingFrames told = make.ring();
        PassingFrames used = make.ring();
        due(call, refused.on(told), want);
        due(call + " once more", refused.on(used), want);
        alike("told after " + call, Look.told(told), Look.told(make.ring()));
        alike("following " + call, Look.following(used), Look.following(make.ring()));
    }

    /** The two rows of answers are the same. */
    void alike(String when, List<String> got, List<String> want) {
        due(when + ": number of answers", got.size(), want.size());
        for (int i = 0; i < Math.min(got.size(), want.size()); i++) {
            boolean same = got.get(i).equals(want.get(i));
            check.isTrue(same ? sentence + when : sentence + when + ": " + got.get(i) + " for " + want.get(i), same);
        }
    }

    /** An argument may be from least to most; beside that the call is refused with BAD. */
    void range(String call, int least, int most, Make make, CallWith asked) {
        for (int value : new int[] {least - 1, most + 1, Integer.MIN_VALUE, Integer.MAX_VALUE}) {
            refused(call + " with " + value, BAD, make, x -> asked.on(x, value));
        }
        for (int value : new int[] {least, Math.min(least + 1, most), Math.max(most - 1, least), most}) {
            notBad(call + " with " + value, asked.on(make.ring(), value));
        }
    }

    void finish() {
        System.out.println(name + ": " + sentences + " sentences");
        check.finish();
    }

    /** The first ring in the midst of its work: something in every part of it. */
    static PassingFrames busy() {
        PassingFrames x = new PassingFrames();
        Check.write(x, "d0510000;e11");
        for (int d = 0; d < 4; d++) {
            Check.enter(x, d, 3 - d);
            x.own(d, 4 + d, 40 + d);
        }
        maps(x);
        messages(x);
        datagrams(x);
        x.level();
        cut(x, 3, 4);
        x.send();
        x.cut(4, 0);
        x.lose(2);
        return x;
    }

    private static void maps(PassingFrames x) {
        x.map(0, 0, 0, 4, 2);
        x.map(1, 0, 4, 8, 4);
        x.map(0, 1, 2, 3, 6);
        x.map(2, 1, 8, 1, 15);
    }

    private static void messages(PassingFrames x) {
        x.tell(0, 21);
        x.tell(0, 22);
        x.tell(3, 23);
        x.fetch(0);
        x.push(0, 31);
        x.push(0, 32);
        x.lose(1);
        x.push(1, 33);
    }

    private static void datagrams(PassingFrames x) {
        x.put(0, 0, 50);
        x.put(1, 1, 51);
        x.put(3, 7, 52);
        x.gram(0, 12, 1, 0, 8);
        x.gram(1, 9, 0, 4, 2);
        x.gram(2, 4, 7, 0, 1);
        x.send();
    }

    /** A ring of some devices with the numbers 1 on, all times 1 but pass 2, and clocks that run evenly from 0 on. */
    static PassingFrames even(int devices) {
        return Check.ring(EIGHT.substring(0, 9 * devices));
    }

    /** The first ring with its devices in PREP, so that the master talks to them. */
    static PassingFrames prepared() {
        PassingFrames x = new PassingFrames();
        for (int d = 0; d < 4; d++) {
            x.state(d, 1);
        }
        return x;
    }

    /** Cuts wires, in this order. */
    static PassingFrames cut(PassingFrames x, int... wires) {
        for (int w : wires) {
            x.cut(w, 1);
        }
        return x;
    }
}
