/** The sentences of THE TEXT and of the promises 2 to 5 that name a boundary, each with a test of its own. */
public final class EdgesOfTextTest {
    private static final int BAD = -1, NO = -2, FULL = -3, NONE = -4;
    private static final Edges T = new Edges("EdgesOfTextTest");

    public static void main(String[] args) {
        theText();
        deviceItems();
        endItems();
        faultPositions();
        firstText();
        write();
        wipe();
        fault();
        lay();
        T.finish();
    }

    /** A new object with a text. */
    private static PassingFrames with(String text) {
        PassingFrames x = new PassingFrames();
        Check.write(x, text);
        return x;
    }

    private static void fault(String text, int want) {
        T.due("fault() of '" + text + "'", with(text).fault(), want);
    }

    private static void theText() {
        T.test("THE TEXT", "The text has at most 200 characters.", () -> {
            PassingFrames x = with("e".repeat(198));
            T.due("the 199th", x.write('e'), 199);
            T.due("the 200th", x.write('e'), 200);
            T.due("the 201st", x.write('e'), FULL);
            T.due("length then", x.count(8), 200);
        });
        T.test("THE TEXT", "It consists of any number of items without blanks", () -> {
            fault("", NONE);
            fault("e111;", NONE);
            fault("e111;e111;", NONE);
            fault("e111;".repeat(39), NONE);
            fault("e111;".repeat(40), NONE);
            fault(" ", 0);
            fault(" e111;", 0);
            fault("e111; d0110000;", 5);
            fault("e111; ", 5);
            fault("e111;d01 10000;", 5);
            fault("e111;e1 1;", 5);
            fault("d0110000 ;", 0);
        });
        T.test("THE TEXT", "each digit below stands for exactly one digit", () -> {
            fault("d0110000;", NONE);
            fault("d011000;", 0);
            fault("d01100000;", 0);
            fault("e111;", NONE);
            fault("e11;", 0);
            fault("e1111;", 0);
            besideTheDigits("d0110000;", 7);
            besideTheDigits("e111;", 3);
        });
    }

    /** In place of each digit the signs just before '0' and just after '9'. */
    private static void besideTheDigits(String item, int digits) {
        for (int at = 1; at <= digits; at++) {
            for (char sign : new char[] {'/', ':', '-', 'a'}) {
                fault(item.substring(0, at) + sign + item.substring(at + 1), 0);
            }
        }
    }

    private static void deviceItems() {
        T.test("THE TEXT", "dNNWSSSR;", () -> {
            fault("d0110000;", NONE);
            for (char begin : new char[] {'c', 'D', '0', ' '}) {
                fault(begin + "0110000;", 0);
            }
            for (char end : new char[] {':', '<', ',', ' '}) {
                fault("d0110000" + end, 0);
            }
            fault("e0110000;", 0);
            fault("0110000;", 0);
        });
        T.test("THE TEXT", "adds a device with number NN (01 to 99,", () -> {
            fault("d0010000;", 0);
            fault("d0110000;", NONE);
            fault("d0210000;", NONE);
            fault("d9810000;", NONE);
            fault("d9910000;", NONE);
            T.due("number 1", Check.ring("d0110000;").device(0, 0), 1);
            T.due("number 99", Check.ring("d9910000;").device(0, 0), 99);
        });
        T.test("THE TEXT", "not that of a device before)", () -> {
            fault("d0510000;d0510000;", 9);
            fault("d0510000;d0410000;", NONE);
            fault("d0510000;d0610000;", NONE);
            fault("d0510000;d0610000;d0510000;", 18);
            fault("d0510000;e111;d0510000;", 14);
            fault("d0510000;d5010000;", NONE);
            fault("d1110000;", NONE);
        });
        T.test("THE TEXT", "time W of the wire before it (1 to 9)", () -> {
            fault("d0100000;", 0);
            fault("d0110000;", NONE);
            fault("d0120000;", NONE);
            fault("d0180000;", NONE);
            fault("d0190000;", NONE);
            T.due("time 1", Check.ring("d0110000;").device(0, 1), 1);
            T.due("time 9", Check.ring("d0190000;").device(0, 1), 9);
        });
        T.test("THE TEXT", "start SSS", () -> {
            T.due("000", Check.ring("d0110000;").device(0, 2), 0);
            T.due("001", Check.ring("d0110010;").device(0, 2), 1);
            T.due("100", Check.ring("d0111000;").device(0, 2), 100);
            T.due("998", Check.ring("d0119980;").device(0, 2), 998);
            T.due("999", Check.ring("d0119990;").device(0, 2), 999);
        });
        T.test("THE TEXT", "rate R (0 to 8)", () -> {
            fault("d0110000;", NONE);
            fault("d0110001;", NONE);
            fault("d0110007;", NONE);
            fault("d0110008;", NONE);
            fault("d0110009;", 0);
            T.due("rate 0", Check.ring("d0110000;").device(0, 3), 0);
            T.due("rate 8", Check.ring("d0110008;").device(0, 3), 8);
        });
        T.test("THE TEXT", "at most 8 devices", () -> {
            fault(Edges.EIGHT.substring(0, 63), NONE);
            fault(Edges.EIGHT, NONE);
            fault(Edges.EIGHT + "d0910000;", 72);
            fault(Edges.EIGHT + "e111;", NONE);
            fault(Edges.EIGHT + "e111;d0910000;", 77);
            T.due("lay() of eight", with(Edges.EIGHT).lay(), 8);
            T.due("lay() of nine", with(Edges.EIGHT + "d0910000;").lay(), NO);
        });
    }

    /** The time of the last wire, pass and turn of a text. */
    private static void ends(String text, int... want) {
        PassingFrames x = Check.ring(text);
        T.row("ends of " + text, new int[] {x.count(9), x.count(10), x.count(11)}, want);
    }

    private static void endItems() {
        T.test("THE TEXT", "eWPF;", () -> {
            fault("e111;", NONE);
            for (char begin : new char[] {'d', 'f', 'E', '0', ' '}) {
                fault(begin + "111;", 0);
            }
            for (char end : new char[] {':', '<', ',', ' '}) {
                fault("e111" + end, 0);
            }
            fault("111;", 0);
        });
        T.test("THE TEXT", "the last wire takes time W (1 to 9)", () -> {
            fault("e011;", 0);
            fault("e111;", NONE);
            fault("e211;", NONE);
            fault("e811;", NONE);
            fault("e911;", NONE);
            ends("d0110000;e145;", 1, 4, 5);
            ends("d0110000;e945;", 9, 4, 5);
        });
        T.test("THE TEXT", "pass is P and turn is F (0 to 9 each)", () -> {
            ends("d0110000;e100;", 1, 0, 0);
            ends("d0110000;e101;", 1, 0, 1);
            ends("d0110000;e110;", 1, 1, 0);
            ends("d0110000;e189;", 1, 8, 9);
            ends("d0110000;e198;", 1, 9, 8);
            ends("d0110000;e199;", 1, 9, 9);
        });
        T.test("THE TEXT", "the last such item counts", () -> {
            ends("e345;d0110000;", 3, 4, 5);
            ends("e999;e345;d0110000;", 3, 4, 5);
            ends("e999;d0110000;e345;", 3, 4, 5);
            ends("e345;d0110000;e678;d0210000;e100;", 1, 0, 0);
        });
        T.test("THE TEXT", "without one they are 1, 2 and 1", () -> {
            ends("d0110000;", 1, 2, 1);
            ends(Edges.EIGHT, 1, 2, 1);
            PassingFrames x = Check.ring("d0110000;e999;");
            Check.write(x, "d0110000;");
            T.due("lay() of one without", x.lay(), 1);
            T.row("ends", new int[] {x.count(9), x.count(10), x.count(11)}, 1, 2, 1);
        });
    }

    private static void faultPositions() {
        T.test("THE TEXT", "The fault position of the text is the index (from 0) of the first character of the first"
                + " item that does not follow these rules", () -> {
            fault("x", 0);
            fault("x111;", 0);
            fault("e111;x", 5);
            fault("d0110000;x", 9);
            fault("d0110000;e011;d0010000;", 9);
            fault("d0110000;e111;d0010000;", 14);
            fault("e111;e111;e111;;", 15);
            fault(";e111;", 0);
            fault("d0110000;d0210009;x", 9);
        });
        T.test("THE TEXT", "(also if the text ends within it)", () -> {
            endsWithin("d0110000;");
            endsWithin("e111;");
        });
    }

    /** Every begin of an item, alone, behind another one and as the end of a full text. */
    private static void endsWithin(String item) {
        for (int length = 1; length <= item.length(); length++) {
            String begin = item.substring(0, length);
            boolean whole = length == item.length();
            fault(begin, whole ? NONE : 0);
            fault("e999;" + begin, whole ? NONE : 5);
            fault("d9910000;" + begin, whole ? NONE : 9);
        }
        String full = "d".repeat(200);
        fault(full, 0);
        fault("e111;".repeat(39) + "d0110", 195);
        fault("e111;".repeat(38) + "d0110000;d", 199);
        fault("e111;".repeat(38) + "d0110000;", NONE);
    }

    private static void firstText() {
        T.test("THE TEXT", "At first the ring is that of " + Edges.FIRST_RING, () -> {
            PassingFrames laid = Check.ring(Edges.FIRST_RING);
            T.alike("told", Look.told(new PassingFrames()), Look.told(laid));
            T.alike("following", Look.following(new PassingFrames()), Look.following(Check.ring(Edges.FIRST_RING)));
        });
        T.test("THE TEXT", "and the text itself is empty.", () -> {
            T.due("count(8)", new PassingFrames().count(8), 0);
            T.due("fault()", new PassingFrames().fault(), NONE);
            T.due("lay()", new PassingFrames().lay(), NO);
            T.due("write()", new PassingFrames().write('d'), 1);
        });
    }

    private static void write() {
        T.test("2", "its ASCII code, 32 to 126", () ->
            T.range("write", 32, 126, Edges::busy, (x, letter) -> x.write(letter)));
        T.test("2", "Appends a character to the text.", () -> {
            PassingFrames x = with("e11");
            T.due("fault() before", x.fault(), 0);
            x.write('1');
            x.write(';');
            T.due("fault() of the whole item", x.fault(), NONE);
            x.write(126);
            T.due("fault() of what is behind it", x.fault(), 5);
        });
        T.test("2", "Returns the new length of the text", () -> {
            PassingFrames x = new PassingFrames();
            for (int length = 1; length <= 200; length++) {
                T.due("write()", x.write(length % 2 == 0 ? 32 : 126), length);
            }
            x.wipe();
            T.due("write() after wipe()", x.write(32), 1);
        });
        T.test("2", "BAD if letter is out of range", () -> {
            for (int letter : new int[] {31, 127, -1, 0, 128, 256 + 100, -100, 65536 + 100}) {
                T.refused("write(" + letter + ")", BAD, PassingFrames::new, x -> x.write(letter));
                T.due("write(" + letter + ") when full", with("e".repeat(200)).write(letter), BAD);
            }
        });
        T.test("2", "FULL if it has 200 characters.", () -> {
            T.due("with 198", with("e".repeat(198)).write('e'), 199);
            T.due("with 199", with("e".repeat(199)).write('e'), 200);
            T.refused("with 200", FULL, () -> with("e111;".repeat(40)), x -> x.write('e'));
            T.refused("with 200", FULL, () -> with("e".repeat(200)), x -> x.write(126));
        });
    }

    private static void wipe() {
        T.test("3", "Empties the text.", () -> {
            for (int length : new int[] {0, 1, 199, 200}) {
                PassingFrames x = with("x".repeat(length));
                x.wipe();
                T.due("count(8) after " + length, x.count(8), 0);
                T.due("fault() after " + length, x.fault(), NONE);
                T.due("lay() after " + length, x.lay(), NO);
                T.due("write() after " + length, x.write('x'), 1);
                T.due("the ring stays", x.count(0), 4);
            }
        });
        T.test("3", "Returns the length that it had.", () -> {
            for (int length : new int[] {0, 1, 2, 199, 200}) {
                PassingFrames x = with("d".repeat(length));
                T.due("wipe()", x.wipe(), length);
                T.due("wipe() once more", x.wipe(), 0);
            }
            PassingFrames full = with("d".repeat(200));
            full.write('d');
            T.due("wipe() after FULL", full.wipe(), 200);
        });
    }

    private static void fault() {
        T.test("4", "Returns the position", () -> {
            fault("x", 0);
            fault("e111;x", 5);
            fault("e111;".repeat(39) + "x", 195);
            fault("e111;".repeat(38) + "d0110000;x", 199);
        });
        T.test("4", "NONE if there is no fault (also for the empty text).", () -> {
            fault("", NONE);
            fault("d0110000;", NONE);
            fault("e111;", NONE);
            fault("e111;".repeat(40), NONE);
            PassingFrames x = with("x");
            T.due("with a fault", x.fault(), 0);
            x.wipe();
            T.due("empty again", x.fault(), NONE);
        });
        T.test("4", "Returns the fault position of the text.", () -> {
            PassingFrames x = with("d0110000;x");
            x.fault();
            T.alike("fault() changes nothing", Look.told(x), Look.told(with("d0110000;x")));
            T.due("length", x.count(8), 10);
            T.due("the ring is not laid", x.count(0), 4);
        });
    }

    private static void lay() {
        T.test("5", "Replaces the ring by that of the text.", () -> {
            PassingFrames x = with("d9990010;e789;");
            x.lay();
            T.row("device 0", new int[] {x.device(0, 0), x.device(0, 1), x.device(0, 2), x.device(0, 3)}, 99, 9, 1, 0);
            T.row("ends", new int[] {x.count(9), x.count(10), x.count(11)}, 7, 8, 9);
            T.due("no device 1 any more", x.device(1, 0), BAD);
        });
        T.test("5", "Everything is as at first then", () -> {
            T.alike("told by the busy one", Look.told(layBusy(Edges.FIRST_RING)), Look.told(lay(Edges.FIRST_RING)));
            T.alike("told of one device", Look.told(layBusy("d0110000;")), Look.told(lay("d0110000;")));
            T.alike("told of eight devices", Look.told(layBusy(Edges.EIGHT)), Look.told(lay(Edges.EIGHT)));
            T.alike("following", Look.following(layBusy(Edges.EIGHT)), Look.following(lay(Edges.EIGHT)));
        });
        asAtFirst();
        T.test("5", "The text stays.", () -> {
            PassingFrames x = lay("d0110000;d0210000;");
            T.due("count(8)", x.count(8), 18);
            T.due("lay() again", x.lay(), 2);
            T.due("write() behind it", x.write('e'), 19);
            T.due("fault()", x.fault(), 18);
            PassingFrames full = lay("d0110000;" + "e111;".repeat(38));
            T.due("count(8) of 199", full.count(8), 199);
        });
        T.test("5", "Returns the number of devices", () -> {
            for (int n = 1; n <= 8; n++) {
                T.due("lay() of " + n, with(Edges.EIGHT.substring(0, 9 * n) + "e111;").lay(), n);
            }
        });
        T.test("5", "NO if the text has a fault or no device.", () -> {
            T.refused("lay() of the empty text", NO, PassingFrames::new, PassingFrames::lay);
            T.refused("lay() without a device", NO, () -> with("e111;"), PassingFrames::lay);
            T.refused("lay() of a fault alone", NO, () -> with("x"), PassingFrames::lay);
            T.refused("lay() of a fault behind a device", NO, () -> with("d0510000;e11"), PassingFrames::lay);
            T.refused("lay() of a fault before a device", NO, () -> with(" d0510000;"), PassingFrames::lay);
            T.refused("lay() of nine devices", NO, () -> with(Edges.EIGHT + "d0910000;"), PassingFrames::lay);
            T.refused("lay() of a busy ring", NO, Edges::busy, PassingFrames::lay);
            T.due("lay() of one device", with("d0510000;").lay(), 1);
        });
    }

    private static PassingFrames lay(String text) {
        PassingFrames x = with(text);
        x.lay();
        return x;
    }

    private static PassingFrames layBusy(String text) {
        PassingFrames x = Edges.busy();
        x.wipe();
        Check.write(x, text);
        x.lay();
        return x;
    }

    /** Each part of the sentence by itself. */
    private static void asAtFirst() {
        T.test("5", "the time is 0,", () -> T.due("count(1)", layBusy(Edges.FIRST_RING).count(1), 0));
        T.test("5", "no wire is cut,", () -> {
            PassingFrames x = Edges.cut(new PassingFrames(), 0, 1, 2, 3, 4);
            Check.write(x, Edges.FIRST_RING);
            x.lay();
            T.due("count(2)", x.count(2), 0);
            for (int w = 0; w <= 4; w++) {
                T.due("cut(" + w + ", 0)", x.cut(w, 0), NO);
            }
            T.due("also no wire that the ring before had not", cutOfLonger().count(2), 0);
        });
        T.test("5", "no datagram has a command,", () -> {
            for (int i = 0; i < 4; i++) {
                T.due("clear(" + i + ")", layBusy(Edges.FIRST_RING).clear(i), NO);
            }
            T.due("send()", layBusy(Edges.FIRST_RING).send(), NO);
        });
        T.test("5", "all their bytes are 0,", () -> {
            PassingFrames x = new PassingFrames();
            for (int i = 0; i < 32; i++) {
                x.put(i / 8, i % 8, 255);
            }
            Check.write(x, Edges.FIRST_RING);
            x.lay();
            for (int i = 0; i < 32; i++) {
                T.due("put(" + i / 8 + ", " + i % 8 + ", 0)", x.put(i / 8, i % 8, 0), 0);
            }
        });
        T.test("5", "nothing has come home,", () -> {
            PassingFrames x = layBusy(Edges.FIRST_RING);
            for (int i = 0; i < 4; i++) {
                T.due("home(" + i + ", -1)", x.home(i, -1), NONE);
                T.due("home(" + i + ", 0)", x.home(i, 0), NONE);
            }
        });
        T.test("5", "nothing is remembered,", () -> {
            PassingFrames x = layBusy(Edges.FIRST_RING);
            T.due("count(6)", x.count(6), 0);
            x.gram(1, 9, 0, 4, 2);
            T.due("expected(1) of one that was remembered", x.expected(1), NONE);
        });
        T.test("5", "no datagram was short,", () -> {
            T.due("count(5) of the busy ring", Edges.busy().count(5), 2);
            T.due("count(5)", layBusy(Edges.FIRST_RING).count(5), 0);
        });
        T.test("5", "and no frames are to be lost.", () -> {
            PassingFrames x = layBusy(Edges.FIRST_RING);
            T.due("count(7)", x.count(7), 0);
            x.gram(0, 7, 0, 0, 1);
            T.due("send()", x.send(), 4);
        });
    }

    /** A ring of one device, laid where all wires of eight were cut, and then one of eight again. */
    private static PassingFrames cutOfLonger() {
        PassingFrames x = Edges.cut(lay(Edges.EIGHT), 0, 1, 2, 3, 4, 5, 6, 7, 8);
        x.wipe();
        Check.write(x, "d0110000;");
        x.lay();
        x.wipe();
        Check.write(x, Edges.EIGHT);
        x.lay();
        return x;
    }
}
