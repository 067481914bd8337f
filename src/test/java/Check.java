/** Compares answers with those that are due, and ends the program with 1 if one was wrong. */
final class Check {
    private final String name;
    private int compared;
    private int wrong;

    Check(String name) {
        this.name = name;
    }

    /** What a call answered, and what is due. */
    void due(String call, int got, int want) {
        compared++;
        if (got != want) {
            wrong++;
            System.out.println(name + ": " + call + " answered " + got + ", due is " + want);
        }
    }

    void isTrue(String what, boolean holds) {
        due(what, holds ? 1 : 0, 1);
    }

    void finish() {
        System.out.println(name + ": " + compared + " answers, " + wrong + " not as due");
        if (wrong != 0) {
            System.exit(1);
        }
    }

    /** Writes a whole text and answers what the last call answered. */
    static int write(PassingFrames x, String text) {
        int answer = 0;
        for (int i = 0; i < text.length(); i++) {
            answer = x.write(text.charAt(i));
        }
        return answer;
    }

    /** A new object with the ring of a text. */
    static PassingFrames ring(String text) {
        PassingFrames x = new PassingFrames();
        write(x, text);
        if (x.lay() < 1) {
            throw new IllegalStateException("no ring: " + text);
        }
        x.wipe();
        return x;
    }

    /** Leads a device up to a state, step by step. */
    static void enter(PassingFrames x, int d, int state) {
        for (int s = 1; s <= state; s++) {
            x.state(d, s);
        }
    }
}
