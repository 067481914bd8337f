import java.util.ArrayDeque;
import java.util.ArrayList;
import java.util.HashMap;
import java.util.LinkedHashMap;
import java.util.List;
import java.util.Map;
import java.util.TreeSet;
import java.util.regex.Matcher;
import java.util.regex.Pattern;

/**
 * The document once more, written in another way than the program: a frame walks along the wires and looks at the
 * time as it goes, the maps are places with bytes on them, and the text is read by patterns.
 */
final class Model {
    private static final int BAD = -1, NO = -2, FULL = -3, NONE = -4, LOST = -5, ZERO = 100000000;
    private static final Pattern DEVICE = Pattern.compile("d(\\d\\d)([1-9])(\\d\\d\\d)([0-8]);");
    private static final Pattern END = Pattern.compile("e([1-9])(\\d)(\\d);");

    private static final class Dev {
        int number, wire, start, rate, state, offset, delay;
        final Map<Integer, Integer> free = new HashMap<>();
        final List<TreeSet<Integer>> places = List.of(new TreeSet<>(), new TreeSet<>());
        final int[] shift = new int[2];
        final ArrayDeque<Integer> outbox = new ArrayDeque<>();
        final ArrayDeque<Integer> inbox = new ArrayDeque<>();
        final int[] bits = {0, 0, 1, 1};
        Integer last, pending;

        long own(long t) {
            return start + t + (long) Math.floor(t * (rate - 4) / 100.0);
        }

        long system(long t) {
            return own(t) + offset;
        }

        int at(int b, long t) {
            long low = ((system(t) % 65536) + 65536) % 65536;
            return b == 0 ? number : b == 1 ? state : b == 2 ? (int) (low & 255) : b == 3 ? (int) (low >> 8)
                    : free.getOrDefault(b, 0);
        }
    }

    private static final class Gram {
        int command, address, offset, n;
        int[] bytes = new int[8];
        int[] homeBytes;
        int homeCounter;

        List<Integer> key() {
            return List.of(command, address, offset, n);
        }
    }

    private static final class Load {
        int[] bytes;
        int counter;
    }

    private interface Visit {
        void at(int d, int position, long time);
    }

    private String text = "";
    private List<Dev> devs = new ArrayList<>();
    private TreeSet<Integer> cuts = new TreeSet<>();
    private int lastWire, pass, turn, toLose, shorts;
    private long time;
    private Gram[] grams;
    private LinkedHashMap<List<Integer>, Integer> remembered;

    Model() {
        text = "d1130005;d2250204;d3341003;d0720504;e432;";
        lay();
        text = "";
    }

    int write(int letter) {
        if (letter < 32 || letter > 126) return BAD;
        if (text.length() == 200) return FULL;
        text += (char) letter;
        return text.length();
    }

    int wipe() {
        int n = text.length();
        text = "";
        return n;
    }

    private int[] end;

    private int parse(List<Dev> into) {
        end = new int[] {1, 2, 1};
        int at = 0;
        while (at < text.length()) {
            Matcher d = DEVICE.matcher(text).region(at, text.length());
            Matcher e = END.matcher(text).region(at, text.length());
            if (d.lookingAt()) {
                Dev dev = new Dev();
                dev.number = Integer.parseInt(d.group(1));
                dev.wire = Integer.parseInt(d.group(2));
                dev.start = Integer.parseInt(d.group(3));
                dev.rate = Integer.parseInt(d.group(4));
                boolean known = into.stream().anyMatch(o -> o.number == dev.number);
                if (dev.number == 0 || known || into.size() == 8) return at;
                into.add(dev);
                at = d.end();
            } else if (e.lookingAt()) {
                for (int i = 0; i < 3; i++) end[i] = Integer.parseInt(e.group(i + 1));
                at = e.end();
            } else {
                return at;
            }
        }
        return NONE;
    }

    int fault() {
        return parse(new ArrayList<>());
    }

    int lay() {
        List<Dev> read = new ArrayList<>();
        if (parse(read) != NONE || read.isEmpty()) return NO;
        devs = read;
        lastWire = end[0];
        pass = end[1];
        turn = end[2];
        cuts = new TreeSet<>();
        time = 0;
        toLose = 0;
        shorts = 0;
        grams = new Gram[] {new Gram(), new Gram(), new Gram(), new Gram()};
        remembered = new LinkedHashMap<>();
        return devs.size();
    }

    private boolean noDev(int d) {
        return d < 0 || d >= devs.size();
    }

    private int wire(int w) {
        return w == devs.size() ? lastWire : devs.get(w).wire;
    }

    private int aEnd() {
        return cuts.isEmpty() ? devs.size() : cuts.first();
    }

    private int bBegin() {
        return cuts.isEmpty() ? devs.size() : cuts.last();
    }

    private int side(int d) {
        return d < aEnd() ? 1 : d >= bBegin() ? 2 : 0;
    }

    /** Walks the frame from A to the end of its line and answers when it is back. */
    private long walkA(Visit visit) {
        long now = time;
        int m = aEnd();
        for (int d = 0; d < m; d++) {
            now += wire(d);
            visit.at(d, d, now);
            now += pass;
        }
        if (cuts.isEmpty()) return now + lastWire;
        for (int d = m - 1; d >= 0; d--) {
            if (d < m - 1) now += turn;
            now += wire(d);
        }
        return now;
    }

    private long walkB(Visit visit) {
        long now = time;
        int f = bBegin();
        for (int w = devs.size(); w > f; w--) {
            now += wire(w);
            if (w - 1 > f) now += turn;
        }
        for (int d = f; d < devs.size(); d++) {
            visit.at(d, d - f, now);
            now += pass + wire(d + 1);
        }
        return now;
    }

    private long homeTime() {
        Visit none = (d, p, t) -> { };
        return Math.max(walkA(none), walkB(none));
    }

    /** Lets a frame end: true if it comes home. */
    private boolean ended() {
        time = homeTime();
        if (toLose == 0) return true;
        toLose--;
        return false;
    }

    int device(int d, int what) {
        if (noDev(d) || what < 0 || what > 5) return BAD;
        Dev v = devs.get(d);
        return new int[] {v.number, v.wire, v.start, v.rate, v.state, side(d)}[what];
    }

    int memory(int d, int b) {
        return noDev(d) || b < 0 || b > 15 ? BAD : devs.get(d).at(b, time);
    }

    int own(int d, int b, int v) {
        if (noDev(d) || b < 4 || b > 15 || v < 0 || v > 255) return BAD;
        Integer was = devs.get(d).free.put(b, v);
        return was == null ? 0 : was;
    }

    int cut(int w, int is) {
        if (w < 0 || w > devs.size() || is < 0 || is > 1) return BAD;
        boolean changed = is == 1 ? cuts.add(w) : cuts.remove(w);
        return changed ? cuts.size() : NO;
    }

    int lose(int n) {
        if (n < 0 || n > 9) return BAD;
        int was = toLose;
        toLose = n;
        return was;
    }

    int state(int d, int s) {
        if (noDev(d) || s < 0 || s > 3) return BAD;
        Dev v = devs.get(d);
        int was = v.state;
        if (side(d) == 0 || s == was || s - was > 1) return NO;
        v.state = s;
        if (s == 0) {
            v.outbox.clear();
            v.inbox.clear();
            v.last = null;
            v.pending = null;
            System.arraycopy(new int[] {0, 0, 1, 1}, 0, v.bits, 0, 4);
        }
        return was;
    }

    int map(int d, int i, int place, int n, int b) {
        if (noDev(d) || i < 0 || i > 1 || place < 0 || place > 31 || n < 1 || n > 8 || place + n > 32) return BAD;
        if (b < (i == 1 ? 4 : 0) || b > 15 || b + n > 16) return BAD;
        TreeSet<Integer> wanted = new TreeSet<>();
        for (int k = 0; k < n; k++) wanted.add(place + k);
        for (int o = 0; o < devs.size(); o++) {
            TreeSet<Integer> common = new TreeSet<>(wanted);
            common.retainAll(devs.get(o).places.get(i));
            if (o != d && !common.isEmpty()) return NO;
        }
        TreeSet<Integer> mine = devs.get(d).places.get(i);
        int had = mine.isEmpty() ? 0 : 1;
        mine.clear();
        mine.addAll(wanted);
        devs.get(d).shift[i] = b - place;
        return had;
    }

    int unmap(int d, int i) {
        if (noDev(d) || i < 0 || i > 1) return BAD;
        TreeSet<Integer> mine = devs.get(d).places.get(i);
        if (mine.isEmpty()) return NO;
        mine.clear();
        return 1;
    }

    int mapped(int d, int i, int what) {
        if (noDev(d) || i < 0 || i > 1 || what < 0 || what > 2) return BAD;
        TreeSet<Integer> mine = devs.get(d).places.get(i);
        if (mine.isEmpty()) return NONE;
        return what == 0 ? mine.first() : what == 1 ? mine.size() : mine.first() + devs.get(d).shift[i];
    }

    int gram(int i, int command, int address, int offset, int n) {
        if (i < 0 || i > 3 || command < 1 || command > 12 || n < 1 || n > 8) return BAD;
        int[] least = {0, 1, 0, 0};
        int[] most = {7, 99, 0, 32 - n};
        int sort = (command - 1) / 3;
        if (address < least[sort] || address > most[sort]) return BAD;
        if (offset < 0 || offset > 15 || sort == 3 && offset != 0) return BAD;
        Gram g = grams[i];
        int was = g.command;
        g.command = command;
        g.address = address;
        g.offset = offset;
        g.n = n;
        return was;
    }

    int clear(int i) {
        if (i < 0 || i > 3) return BAD;
        int was = grams[i].command;
        if (was == 0) return NO;
        grams[i].command = 0;
        return was;
    }

    int put(int i, int k, int v) {
        if (i < 0 || i > 3 || k < 0 || k > 7 || v < 0 || v > 255) return BAD;
        int was = grams[i].bytes[k];
        grams[i].bytes[k] = v;
        return was;
    }

    private Load[] loads() {
        Load[] all = new Load[4];
        for (int i = 0; i < 4; i++) {
            all[i] = new Load();
            all[i].bytes = grams[i].bytes.clone();
        }
        return all;
    }

    private void edit(Gram g, Load load, Dev v, int position, long now) {
        int[] came = load.bytes.clone();
        boolean read = List.of(1, 3, 4, 6, 7, 9, 10, 12).contains(g.command);
        boolean written = List.of(2, 3, 5, 6, 8, 9, 11, 12).contains(g.command);
        boolean or = g.command == 7 || g.command == 9;
        if (g.command == 0 || g.command <= 3 && position != g.address) return;
        if (g.command >= 4 && g.command <= 6 && v.number != g.address) return;
        boolean didRead = false;
        boolean didWrite = false;
        if (g.command <= 9) {
            didRead = read && g.offset + g.n <= 16;
            didWrite = written && g.offset >= 4 && g.offset + g.n <= 16;
            for (int k = 0; k < g.n && didRead; k++) {
                int value = v.at(g.offset + k, now);
                load.bytes[k] = or ? load.bytes[k] | value : value;
            }
            for (int k = 0; k < g.n && didWrite; k++) v.free.put(g.offset + k, came[k]);
        } else {
            for (int k = 0; k < g.n; k++) {
                int place = g.address + k;
                if (read && v.state >= 2 && v.places.get(0).contains(place)) {
                    didRead = true;
                    load.bytes[k] = v.at(place + v.shift[0], now);
                }
            }
            for (int k = 0; k < g.n; k++) {
                int place = g.address + k;
                if (written && v.state == 3 && v.places.get(1).contains(place)) {
                    didWrite = true;
                    v.free.put(place + v.shift[1], came[k]);
                }
            }
        }
        load.counter += (didRead ? 1 : 0) + (didWrite ? read ? 2 : 1 : 0);
    }

    int send() {
        if (grams[0].command + grams[1].command + grams[2].command + grams[3].command == 0) return NO;
        Load[] a = loads();
        Load[] b = loads();
        walkA((d, p, t) -> {
            for (int i = 0; i < 4; i++) edit(grams[i], a[i], devs.get(d), p, t);
        });
        walkB((d, p, t) -> {
            for (int i = 0; i < 4; i++) edit(grams[i], b[i], devs.get(d), p, t);
        });
        if (!ended()) return LOST;
        int sum = 0;
        for (int i = 0; i < 4; i++) {
            Gram g = grams[i];
            g.homeBytes = null;
            if (g.command == 0) continue;
            g.homeBytes = new int[g.n];
            for (int k = 0; k < g.n; k++) {
                int fromA = a[i].bytes[k];
                int fromB = b[i].bytes[k];
                if (cuts.isEmpty()) g.homeBytes[k] = fromA;
                else if (g.command == 7 || g.command == 9) g.homeBytes[k] = fromA | fromB;
                else g.homeBytes[k] = fromA == g.bytes[k] ? fromB : fromA;
            }
            g.homeCounter = a[i].counter + (cuts.isEmpty() ? 0 : b[i].counter);
            sum += g.homeCounter;
            Integer before = remembered.get(g.key());
            if (before != null && g.homeCounter < before) shorts++;
            if (before == null && remembered.size() == 6) remembered.remove(remembered.keySet().iterator().next());
            remembered.merge(g.key(), g.homeCounter, Math::max);
        }
        return sum;
    }

    int home(int i, int k) {
        if (i < 0 || i > 3 || k < -1 || k > 7) return BAD;
        Gram g = grams[i];
        if (g.homeBytes == null || k >= g.homeBytes.length) return NONE;
        return k == -1 ? g.homeCounter : g.homeBytes[k];
    }

    int expected(int i) {
        if (i < 0 || i > 3) return BAD;
        return grams[i].command == 0 ? NONE : remembered.getOrDefault(grams[i].key(), NONE);
    }

    private boolean silent(int d) {
        return side(d) == 0 || devs.get(d).state == 0;
    }

    int tell(int d, int v) {
        if (noDev(d) || v < 1 || v > 255) return BAD;
        ArrayDeque<Integer> box = devs.get(d).outbox;
        if (box.size() == 4) return FULL;
        box.addLast(v);
        return box.size();
    }

    int take(int d) {
        if (noDev(d)) return BAD;
        Integer message = devs.get(d).inbox.pollFirst();
        return message == null ? NONE : message;
    }

    int fetch(int d) {
        if (noDev(d)) return BAD;
        if (silent(d)) return NO;
        Dev v = devs.get(d);
        Integer given = null;
        if (v.bits[0] == v.bits[2]) {
            given = v.last;
        } else if (!v.outbox.isEmpty()) {
            given = v.outbox.pollFirst();
            v.last = given;
            v.bits[0] = v.bits[2];
        }
        if (!ended()) return LOST;
        if (given == null) return NONE;
        v.bits[2] ^= 1;
        return given;
    }

    int push(int d, int v) {
        if (noDev(d) || v < 1 || v > 255) return BAD;
        if (silent(d) || devs.get(d).pending != null) return NO;
        return pushed(devs.get(d), v);
    }

    int again(int d) {
        if (noDev(d)) return BAD;
        if (silent(d) || devs.get(d).pending == null) return NO;
        return pushed(devs.get(d), devs.get(d).pending);
    }

    private int pushed(Dev v, Integer message) {
        boolean accepted = v.bits[1] == v.bits[3];
        if (!accepted && v.inbox.size() < 4) {
            v.inbox.addLast(message);
            v.bits[1] = v.bits[3];
            accepted = true;
        }
        if (!ended()) {
            v.pending = message;
            return LOST;
        }
        if (!accepted) return FULL;
        v.pending = null;
        v.bits[3] ^= 1;
        return v.inbox.size();
    }

    int box(int d, int what) {
        if (noDev(d) || what < 0 || what > 7) return BAD;
        Dev v = devs.get(d);
        if (what >= 2 && what <= 5) return v.bits[what - 2];
        Integer message = what == 6 ? v.last : v.pending;
        return what == 0 ? v.outbox.size() : what == 1 ? v.inbox.size() : message == null ? NONE : message;
    }

    int later(int t) {
        if (t < 1 || t > 9999) return BAD;
        time += t;
        return (int) time;
    }

    int level() {
        int m = aEnd();
        if (m == 0) return NO;
        long[] t0 = new long[m];
        long[] t1 = new long[m];
        long now = time;
        for (int d = 0; d < m; d++) {
            now += wire(d);
            t0[d] = now;
            now += pass;
        }
        for (int d = m - 1; d >= 0; d--) {
            t1[d] = now;
            if (d < m - 1) now += turn;
            // the last device passes the frame on in t1 - t0 = pass; the others turn it when it comes back
            now += wire(d);
        }
        long[] t1AsWritten = new long[m];
        for (int d = m - 1; d >= 0; d--) {
            t1AsWritten[d] = d == m - 1 ? t0[d] + pass
                    : t1AsWritten[d + 1] + wire(d + 1) + (d + 1 == m - 1 ? 0 : turn);
            if (t1AsWritten[d] != t1[d]) throw new IllegalStateException("the model's walk differs");
        }
        for (int d = 0; d < m; d++) {
            Dev v = devs.get(d);
            if (d == 0) {
                v.delay = 0;
            } else {
                Dev u = devs.get(d - 1);
                long before = u.own(t1[d - 1]) - u.own(t0[d - 1]);
                long here = v.own(t1[d]) - v.own(t0[d]);
                long w = before - here - pass - (d == m - 1 ? 0 : turn);
                v.delay = (int) (u.delay + pass + (w > 0 ? w >> 1 : 0));
            }
            v.offset = (int) (devs.get(0).own(t0[0]) + v.delay - v.own(t0[d]));
        }
        time = now;
        return devs.get(m - 1).delay;
    }

    int steer(int step) {
        if (step < 1 || step > 99) return BAD;
        if (aEnd() < 2) return NO;
        long[] first = new long[1];
        int[] greatest = new int[1];
        walkA((d, p, t) -> {
            Dev v = devs.get(d);
            if (d == 0) {
                first[0] = v.system(t);
                return;
            }
            int deviation = (int) (first[0] + v.delay - v.system(t));
            greatest[0] = Math.max(greatest[0], deviation < 0 ? -deviation : deviation);
            v.offset += deviation > step ? step : deviation < -step ? -step : deviation;
        });
        time = homeTime();
        return greatest[0];
    }

    int clock(int d, int what) {
        if (noDev(d) || what < 0 || what > 3) return BAD;
        Dev v = devs.get(d);
        if (what == 3) return v.delay;
        return (int) (ZERO + (what == 0 ? v.own(time) : what == 1 ? v.system(time) : v.offset));
    }

    int apart() {
        TreeSet<Long> clocks = new TreeSet<>();
        for (Dev v : devs) clocks.add(v.system(time));
        return (int) (clocks.last() - clocks.first());
    }

    int count(int what) {
        switch (what) {
            case 0: return devs.size();
            case 1: return (int) time;
            case 2: return cuts.size();
            case 3: return aEnd();
            case 4: return devs.size() - bBegin();
            case 5: return shorts;
            case 6: return remembered.size();
            case 7: return toLose;
            case 8: return text.length();
            case 9: return lastWire;
            case 10: return pass;
            case 11: return turn;
            case 12: return (int) (homeTime() - time);
            default: return BAD;
        }
    }
}
