import java.util.Arrays;

/**
 * A fieldbus ring in which all devices edit one frame while it passes them. The face checks the arguments and
 * answers; the classes inside it hold the text, the ring, the devices, the datagrams and the clocks.
 */
public final class PassingFrames {
    public static final int BAD = -1, NO = -2, FULL = -3, NONE = -4, LOST = -5, ZERO = 100000000;

    private static final String FIRST_RING = "d1130005;d2250204;d3341003;d0720504;e432;";
    private static final int MOST_DEVICES = 8, MOST_SIGNS = 200, DATAGRAMS = 4, GRAM_BYTES = 8;
    private static final int DEVICE_BYTES = 16, FIRST_FREE_BYTE = 4, BYTE_VALUES = 256, CLOCK_VALUES = 65536;
    private static final int PLACES = 32, BOX_SIZE = 4, REMEMBERED = 6;
    private static final int INIT = 0, SAFE = 2, RUN = 3;
    private static final int NO_SIDE = 0, A_SIDE = 1, B_SIDE = 2;
    private static final int READ_MAP = 0, WRITE_MAP = 1;
    private static final int NO_MESSAGE = 0;

    private final Text text = new Text();
    private final Ring ring = new Ring();
    private final Clocks clocks = new Clocks(ring);
    private final Master master = new Master(ring);

    public PassingFrames() {
        for (int i = 0; i < FIRST_RING.length(); i++) {
            text.append(FIRST_RING.charAt(i));
        }
        text.readRing();
        ring.build(text);
        text.empty();
    }

    // ---- the ring

    public int write(int letter) {
        if (!isWithin(letter, 32, 126)) {
            return BAD;
        }
        return text.append((char) letter) ? text.length() : FULL;
    }

    public int wipe() {
        int length = text.length();
        text.empty();
        return length;
    }

    public int fault() {
        return text.readRing();
    }

    public int lay() {
        if (text.readRing() != NONE || text.devices() == 0) {
            return NO;
        }
        ring.build(text);
        master.begin();
        return ring.size();
    }

    public int device(int d, int what) {
        Device device = ring.find(d);
        if (device == null) {
            return BAD;
        }
        switch (what) {
            case 0: return device.number;
            case 1: return ring.wireTime(d);
            case 2: return device.start;
            case 3: return device.rate;
            case 4: return device.state;
            case 5: return ring.sideOf(d);
            default: return BAD;
        }
    }

    public int memory(int d, int b) {
        Device device = ring.find(d);
        if (device == null || !isWithin(b, 0, DEVICE_BYTES - 1)) {
            return BAD;
        }
        device.showAt(ring.time());
        return device.bytes[b];
    }

    public int own(int d, int b, int v) {
        Device device = ring.find(d);
        if (device == null || !isWithin(b, FIRST_FREE_BYTE, DEVICE_BYTES - 1) || !isByte(v)) {
            return BAD;
        }
        int previous = device.bytes[b];
        device.bytes[b] = v;
        return previous;
    }

    public int cut(int w, int is) {
        if (!isWithin(w, 0, ring.size()) || !isWithin(is, 0, 1)) {
            return BAD;
        }
        return ring.changeWire(w, is) ? ring.cutWires() : NO;
    }

    public int lose(int n) {
        return isWithin(n, 0, 9) ? master.replaceLosses(n) : BAD;
    }

    public int state(int d, int s) {
        Device device = ring.find(d);
        if (device == null || !isWithin(s, INIT, RUN)) {
            return BAD;
        }
        int previous = device.state;
        if (ring.sideOf(d) == NO_SIDE || s == previous || s > previous + 1) {
            return NO;
        }
        device.enter(s);
        return previous;
    }

    // ---- maps

    public int map(int d, int i, int place, int n, int b) {
        Overlay overlay = findOverlay(d, i);
        int lowest = i == WRITE_MAP ? FIRST_FREE_BYTE : 0;
        if (overlay == null || !isWithin(n, 1, GRAM_BYTES)
                || !isWithin(place, 0, PLACES - n) || !isWithin(b, lowest, DEVICE_BYTES - n)) {
            return BAD;
        }
        if (ring.isTaken(d, i, place, n)) {
            return NO;
        }
        int had = overlay.exists() ? 1 : 0;
        overlay.lie(place, n, b);
        return had;
    }

    public int unmap(int d, int i) {
        Overlay overlay = findOverlay(d, i);
        if (overlay == null) {
            return BAD;
        }
        if (!overlay.exists()) {
            return NO;
        }
        overlay.remove();
        return 1;
    }

    public int mapped(int d, int i, int what) {
        Overlay overlay = findOverlay(d, i);
        if (overlay == null || !isWithin(what, 0, 2)) {
            return BAD;
        }
        if (!overlay.exists()) {
            return NONE;
        }
        return what == 0 ? overlay.place : what == 1 ? overlay.length : overlay.firstByte;
    }

    private Overlay findOverlay(int d, int i) {
        Device device = ring.find(d);
        if (device == null || !isWithin(i, READ_MAP, WRITE_MAP)) {
            return null;
        }
        return device.overlay(i);
    }

    // ---- frames

    public int gram(int i, int command, int address, int offset, int n) {
        Datagram datagram = master.find(i);
        if (datagram == null || !isWithin(command, 1, 12) || !isWithin(n, 1, GRAM_BYTES)) {
            return BAD;
        }
        if (!isAddress(command, address, n) || !isWithin(offset, 0, command < 10 ? DEVICE_BYTES - 1 : 0)) {
            return BAD;
        }
        int previous = datagram.command;
        datagram.order(command, address, offset, n);
        return previous;
    }

    private static boolean isAddress(int command, int address, int n) {
        if (command <= 3) {
            return isWithin(address, 0, 7);
        }
        if (command <= 6) {
            return isWithin(address, 1, 99);
        }
        return isWithin(address, 0, command <= 9 ? 0 : PLACES - n);
    }

    public int clear(int i) {
        Datagram datagram = master.find(i);
        if (datagram == null) {
            return BAD;
        }
        if (datagram.command == 0) {
            return NO;
        }
        int previous = datagram.command;
        datagram.command = 0;
        return previous;
    }

    public int put(int i, int k, int v) {
        Datagram datagram = master.find(i);
        if (datagram == null || !isWithin(k, 0, GRAM_BYTES - 1) || !isByte(v)) {
            return BAD;
        }
        int previous = datagram.bytes[k];
        datagram.bytes[k] = v;
        return previous;
    }

    public int send() {
        return master.hasCommands() ? master.sendFrame() : NO;
    }

    public int home(int i, int k) {
        Datagram datagram = master.find(i);
        if (datagram == null || !isWithin(k, -1, GRAM_BYTES - 1)) {
            return BAD;
        }
        // a datagram that did not come home has the length 0 there
        if (datagram.homeLength == 0 || k >= datagram.homeLength) {
            return NONE;
        }
        return k < 0 ? datagram.homeCounter : datagram.homeBytes[k];
    }

    public int expected(int i) {
        Datagram datagram = master.find(i);
        if (datagram == null) {
            return BAD;
        }
        return datagram.command == 0 ? NONE : master.expectedOf(datagram);
    }

    // ---- boxes

    public int tell(int d, int v) {
        Device device = ring.find(d);
        if (device == null || !isMessage(v)) {
            return BAD;
        }
        return device.boxes.outbox.append(v) ? device.boxes.outbox.size() : FULL;
    }

    public int take(int d) {
        Device device = ring.find(d);
        if (device == null) {
            return BAD;
        }
        int message = device.boxes.inbox.removeOldest();
        return message == NO_MESSAGE ? NONE : message;
    }

    public int fetch(int d) {
        Device device = ring.find(d);
        if (device == null) {
            return BAD;
        }
        if (!ring.isReached(d)) {
            return NO;
        }
        int message = device.boxes.give();
        if (!master.frameComesHome()) {
            return LOST;
        }
        if (message == NO_MESSAGE) {
            return NONE;
        }
        device.boxes.confirmGiven();
        return message;
    }

    public int push(int d, int v) {
        Device device = ring.find(d);
        if (device == null || !isMessage(v)) {
            return BAD;
        }
        if (!ring.isReached(d) || device.boxes.pending != NO_MESSAGE) {
            return NO;
        }
        return deliver(device.boxes, v);
    }

    public int again(int d) {
        Device device = ring.find(d);
        if (device == null) {
            return BAD;
        }
        if (!ring.isReached(d) || device.boxes.pending == NO_MESSAGE) {
            return NO;
        }
        return deliver(device.boxes, device.boxes.pending);
    }

    private int deliver(Mailboxes boxes, int message) {
        boolean accepted = boxes.accept(message);
        if (!master.frameComesHome()) {
            boxes.pending = message;
            return LOST;
        }
        if (!accepted) {
            return FULL;
        }
        boxes.confirmAccepted();
        return boxes.inbox.size();
    }

    public int box(int d, int what) {
        Device device = ring.find(d);
        if (device == null || !isWithin(what, 0, 7)) {
            return BAD;
        }
        return device.boxes.property(what);
    }

    // ---- clocks

    public int later(int t) {
        if (!isWithin(t, 1, 9999)) {
            return BAD;
        }
        ring.passTime(t);
        return ring.time();
    }

    public int level() {
        return clocks.synchronize();
    }

    public int steer(int step) {
        return isWithin(step, 1, 99) ? clocks.correct(step) : BAD;
    }

    public int clock(int d, int what) {
        Device device = ring.find(d);
        if (device == null) {
            return BAD;
        }
        switch (what) {
            case 0: return device.ownClock(ring.time()) + ZERO;
            case 1: return device.systemClock(ring.time()) + ZERO;
            case 2: return device.offset + ZERO;
            case 3: return device.delay;
            default: return BAD;
        }
    }

    public int apart() {
        return clocks.spread();
    }

    public int count(int what) {
        switch (what) {
            case 0: return ring.size();
            case 1: return ring.time();
            case 2: return ring.cutWires();
            case 3: return ring.sizeOfA();
            case 4: return ring.sizeOfB();
            case 5: return master.shortOnes();
            case 6: return master.rememberedOnes();
            case 7: return master.framesToLose();
            case 8: return text.length();
            case 9: return ring.wireTime(ring.size());
            case 10: return ring.pass();
            case 11: return ring.turn();
            case 12: return ring.trip();
            default: return BAD;
        }
    }

    private static boolean isWithin(int value, int least, int most) {
        return value >= least && value <= most;
    }

    private static boolean isByte(int value) {
        return isWithin(value, 0, BYTE_VALUES - 1);
    }

    private static boolean isMessage(int value) {
        return isWithin(value, 1, BYTE_VALUES - 1);
    }

    /** The characters that have been written, and the ring that they describe up to their fault. */
    static final class Text {
        private static final int DEVICE_ITEM = 9, END_ITEM = 5;

        private final char[] signs = new char[MOST_SIGNS];
        private final int[] numbers = new int[MOST_DEVICES];
        private final int[] wires = new int[MOST_DEVICES];
        private final int[] starts = new int[MOST_DEVICES];
        private final int[] rates = new int[MOST_DEVICES];
        private int length;
        private int devices;
        private int lastWire;
        private int pass;
        private int turn;

        boolean append(char sign) {
            if (length >= MOST_SIGNS) {
                return false;
            }
            signs[length] = sign;
            length++;
            return true;
        }

        void empty() {
            length = 0;
        }

        int length() {
            return length;
        }

        int devices() {
            return devices;
        }

        /** Reads the ring that is described; answers the fault position, NONE if there is no fault. */
        int readRing() {
            devices = 0;
            lastWire = 1;
            pass = 2;
            turn = 1;
            int at = 0;
            for (int items = 0; items < MOST_SIGNS && at < length; items++) {
                if (readDevice(at)) {
                    at += DEVICE_ITEM;
                } else if (readEnd(at)) {
                    at += END_ITEM;
                } else {
                    return at;
                }
            }
            return NONE;
        }

        private boolean readDevice(int at) {
            int number = numberAt(at + 1, 2);
            int wire = numberAt(at + 3, 1);
            int start = numberAt(at + 4, 3);
            int rate = numberAt(at + 7, 1);
            if (!has(at, 'd') || !has(at + 8, ';') || number < 1 || wire < 1 || start < 0) {
                return false;
            }
            if (!isWithin(rate, 0, 8) || devices >= MOST_DEVICES || hasNumber(number)) {
                return false;
            }
            numbers[devices] = number;
            wires[devices] = wire;
            starts[devices] = start;
            rates[devices] = rate;
            devices++;
            return true;
        }

        private boolean hasNumber(int number) {
            for (int i = 0; i < devices; i++) {
                if (numbers[i] == number) {
                    return true;
                }
            }
            return false;
        }

        private boolean readEnd(int at) {
            int wireTime = numberAt(at + 1, 1);
            int passTime = numberAt(at + 2, 1);
            int turnTime = numberAt(at + 3, 1);
            if (!has(at, 'e') || !has(at + 4, ';') || wireTime < 1 || passTime < 0 || turnTime < 0) {
                return false;
            }
            lastWire = wireTime;
            pass = passTime;
            turn = turnTime;
            return true;
        }

        private boolean has(int at, char sign) {
            return at >= 0 && at < length && signs[at] == sign;
        }

        /** The value of so many digits from a position on; NONE if they are not all digits of the text. */
        private int numberAt(int at, int digits) {
            if (at < 0 || at + digits > length) {
                return NONE;
            }
            int value = 0;
            for (int i = at; i < at + digits; i++) {
                if (signs[i] < '0' || signs[i] > '9') {
                    return NONE;
                }
                value = value * 10 + (signs[i] - '0');
            }
            return value;
        }
    }

    /** The devices with the wires between them, and the time. */
    static final class Ring {
        private final Device[] devices = new Device[MOST_DEVICES];
        private final int[] wires = new int[MOST_DEVICES + 1];
        private final int[] cuts = new int[MOST_DEVICES + 1];
        private int size;
        private int pass;
        private int turn;
        private int time;

        Ring() {
            for (int i = 0; i < MOST_DEVICES; i++) {
                devices[i] = new Device();
            }
        }

        void build(Text text) {
            size = text.devices;
            pass = text.pass;
            turn = text.turn;
            time = 0;
            Arrays.fill(cuts, 0);
            for (int i = 0; i < size; i++) {
                devices[i].begin(text.numbers[i], text.starts[i], text.rates[i]);
                wires[i] = text.wires[i];
            }
            wires[size] = text.lastWire;
        }

        /** The device with this index, null if there is none. */
        Device find(int d) {
            return d >= 0 && d < size ? devices[d] : null;
        }

        int size() {
            return size;
        }

        int time() {
            return time;
        }

        int pass() {
            return pass;
        }

        int turn() {
            return turn;
        }

        void passTime(int more) {
            time += more;
        }

        int wireTime(int w) {
            return w >= 0 && w <= size ? wires[w] : 0;
        }

        private int wireTimes(int first, int last) {
            int sum = 0;
            for (int w = first; w <= last; w++) {
                sum += wireTime(w);
            }
            return sum;
        }

        /** Cuts or repairs a wire; false if it is so already. */
        boolean changeWire(int w, int is) {
            if (w < 0 || w > size || cuts[w] == is) {
                return false;
            }
            cuts[w] = is;
            return true;
        }

        int cutWires() {
            int sum = 0;
            for (int w = 0; w <= size; w++) {
                sum += cuts[w];
            }
            return sum;
        }

        int sizeOfA() {
            for (int w = 0; w < size; w++) {
                if (cuts[w] == 1) {
                    return w;
                }
            }
            return size;
        }

        /** The first device of the B side; the number of devices if that side is empty. */
        int firstOfB() {
            for (int w = size; w >= 0; w--) {
                if (cuts[w] == 1) {
                    return w;
                }
            }
            return size;
        }

        int sizeOfB() {
            return size - firstOfB();
        }

        int sideOf(int d) {
            if (d < sizeOfA()) {
                return A_SIDE;
            }
            return d >= firstOfB() ? B_SIDE : NO_SIDE;
        }

        /** Whether the master talks to a device. */
        boolean isReached(int d) {
            Device device = find(d);
            return device != null && device.state != INIT && sideOf(d) != NO_SIDE;
        }

        /** The time at which a frame that leaves now passes a device of the A side. */
        int timeOnA(int d) {
            return time + wireTimes(0, d) + d * pass;
        }

        /** The time at which a frame that leaves now passes a device of the B side. */
        int timeOnB(int d) {
            int first = firstOfB();
            int timeAtFirst = time + wireTimes(first + 1, size) + turn * (size - first - 1);
            return timeAtFirst + wireTimes(first + 1, d) + pass * (d - first);
        }

        int trip() {
            if (cutWires() == 0) {
                return wireTimes(0, size) + pass * size;
            }
            int tripOnA = sideTrip(sizeOfA(), wireTimes(0, sizeOfA() - 1));
            int tripOnB = sideTrip(sizeOfB(), wireTimes(firstOfB() + 1, size));
            return Math.max(tripOnA, tripOnB);
        }

        private int sideTrip(int sideSize, int wiresOneWay) {
            return sideSize == 0 ? 0 : 2 * wiresOneWay + sideSize * pass + (sideSize - 1) * turn;
        }

        /** Whether the same sort of map of another device lies over one of these places. */
        boolean isTaken(int d, int sort, int place, int length) {
            for (int i = 0; i < size; i++) {
                if (i != d && devices[i].overlay(sort).meets(place, length)) {
                    return true;
                }
            }
            return false;
        }
    }

    /** A device with its memory, maps, boxes and clock. */
    static final class Device {
        /** Bytes 0 to 3 are only right after showAt, for the time that was given there. */
        private final int[] bytes = new int[DEVICE_BYTES];
        private final Overlay readMap = new Overlay();
        private final Overlay writeMap = new Overlay();
        private final Mailboxes boxes = new Mailboxes();
        private int number;
        private int start;
        private int rate;
        private int state;
        private int offset;
        private int delay;

        void begin(int itsNumber, int itsStart, int itsRate) {
            number = itsNumber;
            start = itsStart;
            rate = itsRate;
            offset = 0;
            delay = 0;
            Arrays.fill(bytes, 0);
            readMap.remove();
            writeMap.remove();
            enter(INIT);
        }

        void enter(int newState) {
            state = newState;
            if (newState == INIT) {
                boxes.begin();
            }
        }

        Overlay overlay(int sort) {
            return sort == WRITE_MAP ? writeMap : readMap;
        }

        int ownClock(int time) {
            return start + time + Math.floorDiv(time * (rate - 4), 100);
        }

        int systemClock(int time) {
            return ownClock(time) + offset;
        }

        void showAt(int time) {
            int shown = Math.floorMod(systemClock(time), CLOCK_VALUES);
            bytes[0] = number;
            bytes[1] = state;
            bytes[2] = shown % BYTE_VALUES;
            bytes[3] = shown / BYTE_VALUES;
        }
    }

    /** Bytes of a device that lie over places of the map. */
    static final class Overlay {
        private int place;
        private int length;
        private int firstByte;

        void lie(int itsPlace, int itsLength, int itsFirstByte) {
            place = itsPlace;
            length = itsLength;
            firstByte = itsFirstByte;
        }

        void remove() {
            length = 0;
        }

        boolean exists() {
            return length > 0;
        }

        boolean meets(int otherPlace, int otherLength) {
            return exists() && place < otherPlace + otherLength && otherPlace < place + length;
        }

        /** The byte of the device over a place, NONE if there is none. */
        int byteOver(int atPlace) {
            return atPlace >= place && atPlace < place + length ? firstByte + (atPlace - place) : NONE;
        }
    }

    /** A row of messages, the oldest first. */
    static final class Queue {
        private final int[] messages = new int[BOX_SIZE];
        private int size;

        int size() {
            return size;
        }

        void empty() {
            size = 0;
        }

        boolean append(int message) {
            if (size >= BOX_SIZE) {
                return false;
            }
            messages[size] = message;
            size++;
            return true;
        }

        int removeOldest() {
            if (size == 0) {
                return NO_MESSAGE;
            }
            int oldest = messages[0];
            for (int i = 1; i < size; i++) {
                messages[i - 1] = messages[i];
            }
            size--;
            return oldest;
        }
    }

    /** The boxes of a device, with what the master remembers of them. */
    static final class Mailboxes {
        private final Queue outbox = new Queue();
        private final Queue inbox = new Queue();
        private int outBit;
        private int inBit;
        private int masterOutBit;
        private int masterInBit;
        private int last;
        private int pending;

        void begin() {
            outbox.empty();
            inbox.empty();
            outBit = 0;
            inBit = 0;
            masterOutBit = 1;
            masterInBit = 1;
            last = NO_MESSAGE;
            pending = NO_MESSAGE;
        }

        /** The device's part of FETCH. */
        int give() {
            // equal bits tell that the message before did not come home
            if (masterOutBit == outBit) {
                return last;
            }
            if (outbox.size() == 0) {
                return NO_MESSAGE;
            }
            last = outbox.removeOldest();
            outBit = masterOutBit;
            return last;
        }

        void confirmGiven() {
            masterOutBit = 1 - masterOutBit;
        }

        /** The device's part of PUSH. */
        boolean accept(int message) {
            // equal bits tell that the message was accepted by a frame that was lost
            if (masterInBit == inBit) {
                return true;
            }
            if (!inbox.append(message)) {
                return false;
            }
            inBit = masterInBit;
            return true;
        }

        void confirmAccepted() {
            masterInBit = 1 - masterInBit;
            pending = NO_MESSAGE;
        }

        int property(int what) {
            switch (what) {
                case 0: return outbox.size();
                case 1: return inbox.size();
                case 2: return outBit;
                case 3: return inBit;
                case 4: return masterOutBit;
                case 5: return masterInBit;
                case 6: return last == NO_MESSAGE ? NONE : last;
                default: return pending == NO_MESSAGE ? NONE : pending;
            }
        }
    }

    /** The bytes and the counter of a datagram in one of the two frames. */
    static final class Cargo {
        private final int[] bytes = new int[GRAM_BYTES];
        private final int[] came = new int[GRAM_BYTES];
        private int counter;

        void load(int[] sent) {
            System.arraycopy(sent, 0, bytes, 0, GRAM_BYTES);
            counter = 0;
        }

        void arrive() {
            System.arraycopy(bytes, 0, came, 0, GRAM_BYTES);
        }
    }

    /** A datagram as it is set, as the two frames carry it, and as it came home. */
    static final class Datagram {
        private static final int BY_POSITION = 0, BY_NUMBER = 1, BY_MAP = 3;
        private static final int ONLY_READ = 0, ONLY_WRITE = 1;
        private static final int READ_ALL = 7, BOTH_ALL = 9;

        private int command;
        private int address;
        private int offset;
        private int length;
        private final int[] bytes = new int[GRAM_BYTES];
        private final Cargo cargoA = new Cargo();
        private final Cargo cargoB = new Cargo();
        private final int[] homeBytes = new int[GRAM_BYTES];
        private int homeCounter;
        private int homeLength;

        void begin() {
            command = 0;
            homeLength = 0;
            Arrays.fill(bytes, 0);
        }

        void order(int itsCommand, int itsAddress, int itsOffset, int itsLength) {
            command = itsCommand;
            address = itsAddress;
            offset = itsOffset;
            length = itsLength;
        }

        void leave() {
            cargoA.load(bytes);
            cargoB.load(bytes);
        }

        void edit(Cargo cargo, Device device, int position) {
            if (command == 0 || !means(device, position)) {
                return;
            }
            int action = (command - 1) % 3;
            boolean reads = action != ONLY_WRITE;
            boolean writes = action != ONLY_READ;
            cargo.arrive();
            if (reads && readInto(cargo, device)) {
                cargo.counter += 1;
            }
            if (writes && writeFrom(cargo, device)) {
                cargo.counter += reads ? 2 : 1;
            }
        }

        private int addressing() {
            return (command - 1) / 3;
        }

        private boolean means(Device device, int position) {
            int addressing = addressing();
            if (addressing == BY_POSITION) {
                return position == address;
            }
            return addressing != BY_NUMBER || device.number == address;
        }

        private boolean combines() {
            return command == READ_ALL || command == BOTH_ALL;
        }

        private boolean mayRead(Device device) {
            return addressing() == BY_MAP ? device.state >= SAFE : offset + length <= DEVICE_BYTES;
        }

        private boolean mayWrite(Device device) {
            if (addressing() == BY_MAP) {
                return device.state == RUN;
            }
            return offset >= FIRST_FREE_BYTE && offset + length <= DEVICE_BYTES;
        }

        /** Reads the device; false if no byte of it is meant. */
        private boolean readInto(Cargo cargo, Device device) {
            if (!mayRead(device)) {
                return false;
            }
            boolean any = false;
            for (int k = 0; k < length; k++) {
                int b = byteOver(k, device.readMap);
                if (isWithin(b, 0, DEVICE_BYTES - 1)) {
                    cargo.bytes[k] = combines() ? cargo.bytes[k] | device.bytes[b] : device.bytes[b];
                    any = true;
                }
            }
            return any;
        }

        /** Writes the device with the bytes as they came; false if no byte of it is meant. */
        private boolean writeFrom(Cargo cargo, Device device) {
            if (!mayWrite(device)) {
                return false;
            }
            boolean any = false;
            for (int k = 0; k < length; k++) {
                int b = byteOver(k, device.writeMap);
                if (isWithin(b, FIRST_FREE_BYTE, DEVICE_BYTES - 1)) {
                    device.bytes[b] = cargo.came[k];
                    any = true;
                }
            }
            return any;
        }

        /** The byte of the device over a byte of the datagram, NONE if there is none. */
        private int byteOver(int k, Overlay overlay) {
            return addressing() == BY_MAP ? overlay.byteOver(address + k) : offset + k;
        }

        void comeHome(boolean joined) {
            homeLength = command == 0 ? 0 : length;
            homeCounter = joined ? cargoA.counter + cargoB.counter : cargoA.counter;
            for (int k = 0; k < homeLength; k++) {
                homeBytes[k] = joined ? joinedByte(k) : cargoA.bytes[k];
            }
        }

        private int joinedByte(int k) {
            if (combines()) {
                return cargoA.bytes[k] | cargoB.bytes[k];
            }
            return cargoA.bytes[k] != bytes[k] ? cargoA.bytes[k] : cargoB.bytes[k];
        }

        /** The same number for alike datagrams, and for these alone. */
        int likeness() {
            return ((command * 100 + address) * DEVICE_BYTES + offset) * 10 + length;
        }
    }

    /** The greatest counters that have come home, of the last different datagrams. */
    static final class Expectations {
        private final int[] likenesses = new int[REMEMBERED];
        private final int[] counters = new int[REMEMBERED];
        private int size;

        void empty() {
            size = 0;
        }

        int size() {
            return size;
        }

        private int indexOf(int likeness) {
            for (int i = 0; i < size; i++) {
                if (likenesses[i] == likeness) {
                    return i;
                }
            }
            return NONE;
        }

        int counterOf(int likeness) {
            int i = indexOf(likeness);
            return i < 0 ? NONE : counters[i];
        }

        void remember(int likeness, int counter) {
            int i = indexOf(likeness);
            if (i >= 0) {
                counters[i] = Math.max(counters[i], counter);
                return;
            }
            if (size >= REMEMBERED) {
                forgetOldest();
            }
            likenesses[size] = likeness;
            counters[size] = counter;
            size++;
        }

        private void forgetOldest() {
            for (int i = 1; i < size; i++) {
                likenesses[i - 1] = likenesses[i];
                counters[i - 1] = counters[i];
            }
            size--;
        }
    }

    /** The master's frames. */
    static final class Master {
        private final Ring ring;
        private final Datagram[] datagrams = new Datagram[DATAGRAMS];
        private final Expectations expectations = new Expectations();
        private int shortOnes;
        private int framesToLose;

        Master(Ring itsRing) {
            ring = itsRing;
            for (int i = 0; i < DATAGRAMS; i++) {
                datagrams[i] = new Datagram();
            }
        }

        void begin() {
            for (int i = 0; i < DATAGRAMS; i++) {
                datagrams[i].begin();
            }
            expectations.empty();
            shortOnes = 0;
            framesToLose = 0;
        }

        /** The datagram with this index, null if there is none. */
        Datagram find(int i) {
            return i >= 0 && i < DATAGRAMS ? datagrams[i] : null;
        }

        boolean hasCommands() {
            for (int i = 0; i < DATAGRAMS; i++) {
                if (datagrams[i].command != 0) {
                    return true;
                }
            }
            return false;
        }

        int shortOnes() {
            return shortOnes;
        }

        int rememberedOnes() {
            return expectations.size();
        }

        int framesToLose() {
            return framesToLose;
        }

        int replaceLosses(int n) {
            int before = framesToLose;
            framesToLose = n;
            return before;
        }

        int expectedOf(Datagram datagram) {
            return expectations.counterOf(datagram.likeness());
        }

        /** Ends a frame: lets its trip pass and tells whether it comes home. */
        boolean frameComesHome() {
            ring.passTime(ring.trip());
            if (framesToLose > 0) {
                framesToLose--;
                return false;
            }
            return true;
        }

        /** Answers the sum of the counters, or LOST. */
        int sendFrame() {
            for (int i = 0; i < DATAGRAMS; i++) {
                datagrams[i].leave();
            }
            passA();
            passB();
            return frameComesHome() ? receive() : LOST;
        }

        private void passA() {
            int size = ring.sizeOfA();
            for (int d = 0; d < size; d++) {
                Device device = ring.devices[d];
                device.showAt(ring.timeOnA(d));
                for (int i = 0; i < DATAGRAMS; i++) {
                    datagrams[i].edit(datagrams[i].cargoA, device, d);
                }
            }
        }

        private void passB() {
            int first = ring.firstOfB();
            int size = ring.size();
            for (int d = first; d < size; d++) {
                Device device = ring.devices[d];
                device.showAt(ring.timeOnB(d));
                for (int i = 0; i < DATAGRAMS; i++) {
                    datagrams[i].edit(datagrams[i].cargoB, device, d - first);
                }
            }
        }

        private int receive() {
            boolean joined = ring.cutWires() > 0;
            int sum = 0;
            for (int i = 0; i < DATAGRAMS; i++) {
                Datagram datagram = datagrams[i];
                datagram.comeHome(joined);
                if (datagram.command != 0) {
                    sum += datagram.homeCounter;
                    compare(datagram);
                }
            }
            return sum;
        }

        private void compare(Datagram datagram) {
            // NONE is less than every counter, so a datagram that is new is never short
            if (datagram.homeCounter < expectedOf(datagram)) {
                shortOnes++;
            }
            expectations.remember(datagram.likeness(), datagram.homeCounter);
        }
    }

    /** The frames that set the clocks. */
    static final class Clocks {
        private final Ring ring;
        private final int[] timesOut = new int[MOST_DEVICES];
        private final int[] timesBack = new int[MOST_DEVICES];

        Clocks(Ring itsRing) {
            ring = itsRing;
        }

        /** Answers the delay of the last device of the A side, NO if that side is empty. */
        int synchronize() {
            int last = ring.sizeOfA() - 1;
            if (last < 0) {
                return NO;
            }
            setTimes(last);
            setDelays(last);
            setOffsets(last);
            int timeHome = timesBack[0] + ring.wireTime(0) + turnBefore(0, last);
            ring.passTime(timeHome - ring.time());
            return ring.devices[last].delay;
        }

        /** The time for turning at a device on the way back, where the last one of the side does not turn. */
        private int turnBefore(int d, int last) {
            return d == last ? 0 : ring.turn();
        }

        private void setTimes(int last) {
            for (int d = 0; d <= last; d++) {
                timesOut[d] = ring.timeOnA(d);
            }
            for (int d = last; d >= 0; d--) {
                timesBack[d] = d == last
                        ? timesOut[d] + ring.pass()
                        : timesBack[d + 1] + ring.wireTime(d + 1) + turnBefore(d + 1, last);
            }
        }

        private void setDelays(int last) {
            ring.devices[0].delay = 0;
            for (int d = 1; d <= last; d++) {
                int wiresBothWays = gap(d - 1) - gap(d) - ring.pass() - turnBefore(d, last);
                int more = ring.pass() + Math.max(0, wiresBothWays) / 2;
                ring.devices[d].delay = ring.devices[d - 1].delay + more;
            }
        }

        private int gap(int d) {
            Device device = ring.devices[d];
            return device.ownClock(timesBack[d]) - device.ownClock(timesOut[d]);
        }

        private void setOffsets(int last) {
            int wanted = ring.devices[0].ownClock(timesOut[0]);
            for (int d = 0; d <= last; d++) {
                Device device = ring.devices[d];
                device.offset = wanted + device.delay - device.ownClock(timesOut[d]);
            }
        }

        /** Answers the greatest absolute value of the deviations, NO if the A side has fewer than two devices. */
        int correct(int step) {
            int size = ring.sizeOfA();
            if (size < 2) {
                return NO;
            }
            int wanted = ring.devices[0].systemClock(ring.timeOnA(0));
            int greatest = 0;
            for (int d = 1; d < size; d++) {
                Device device = ring.devices[d];
                int deviation = wanted + device.delay - device.systemClock(ring.timeOnA(d));
                device.offset += Math.max(-step, Math.min(step, deviation));
                greatest = Math.max(greatest, Math.abs(deviation));
            }
            ring.passTime(ring.trip());
            return greatest;
        }

        int spread() {
            int least = ring.devices[0].systemClock(ring.time());
            int greatest = least;
            for (int d = 1; d < ring.size(); d++) {
                int system = ring.devices[d].systemClock(ring.time());
                least = Math.min(least, system);
                greatest = Math.max(greatest, system);
            }
            return greatest - least;
        }
    }
}
