/**
 * A control house of a power grid. The net is told by a text; flows, estimates, shorts and the cheapest
 * dispatch are exact fractions. All rows are made when the object is made and used again by every call.
 */
public final class GridHouse {
    public static final int NONE = -1;

    private static final int BAR = 0;
    private static final int SWITCH = 1;
    private static final int LINE = 2;
    private static final int MACHINE = 3;
    private static final int LOAD = 4;
    private static final int SORTS = 5;

    private static final int BARS = 16;
    private static final int SWITCHES = 24;
    private static final int LINES = 20;
    private static final int MACHINES = 6;

    private static final int EARTHED = 0;
    private static final int STATE = 0;
    private static final int TIME = 1;
    private static final int TAGGED = 2;
    private static final int SWITCH_ENDS = 3;
    private static final int IN = 0;
    private static final int LINE_X = 1;
    private static final int LINE_Z = 2;
    private static final int LIMIT = 3;
    private static final int LINE_ENDS = 4;
    private static final int ON = 0;
    private static final int OUTPUT = 1;
    private static final int MACHINE_X = 2;
    private static final int MACHINE_Z = 3;
    private static final int LO = 4;
    private static final int HI = 5;
    private static final int CHEAP = 6;
    private static final int BREAK = 7;
    private static final int DEAR = 8;
    private static final int SHARE = 9;
    private static final int MACHINE_BAR = 10;
    private static final int LOAD_MW = 0;
    private static final int LOAD_BAR = 1;

    /** Far above what any loop without a bound of its own can need. */
    private static final int TURNS = 1000000;
    private static final int KEPT = 3;
    private static final int MOST_TIME = 9999999;

    private final Tape tape = new Tape();
    private final Net net = new Net();
    private final Net spare = new Net();
    private final Net[] kept = new Net[KEPT];
    private final boolean[] isKept = new boolean[KEPT];
    private final Hand hand = new Hand();
    private final Solver solver = new Solver();
    private final Flow flow = new Flow(net, solver);
    private final Flow[] stages = new Flow[Rules.STAGES];
    private final Meters meters = new Meters(flow.shape, solver);
    private final Shorts shorts = new Shorts(flow.shape, solver);
    private final Relays relays = new Relays(solver);
    private final Dispatch dispatch = new Dispatch(flow.shape, solver);
    private final Rules rules = new Rules(stages);
    private boolean looked;

    public GridHouse() {
        for (int i = 0; i < kept.length; i++) {
            kept[i] = new Net();
        }
        for (int i = 0; i < stages.length; i++) {
            stages[i] = new Flow(new Net(), solver);
        }
    }

    // ---------------------------------------------------------------- texts and fields

    public int feed(int a, int b, int c, int d, int e) throws IllegalStateException {
        if (tape.length > Tape.MOST - 20) {
            throw new IllegalStateException("the tape is full");
        }
        tape.write(a);
        tape.write(b);
        tape.write(c);
        tape.write(d);
        tape.write(e);
        return tape.length;
    }

    public void end(int n) throws IllegalArgumentException {
        if (n < 0 || n > tape.length) {
            throw new IllegalArgumentException("not within the tape");
        }
        tape.length = n;
    }

    public int net() {
        int answer = spare.read(tape);
        tape.length = 0;
        if (answer < 0) {
            return answer;
        }
        net.copy(spare);
        for (int i = 0; i < isKept.length; i++) {
            isKept[i] = false;
        }
        meters.clear();
        relays.clear();
        rules.clear();
        changed();
        return answer;
    }

    public int rules() {
        int answer = rules.readRules(tape, net);
        tape.length = 0;
        return answer;
    }

    public int order() {
        int answer = rules.readOrder(tape, net);
        tape.length = 0;
        return answer;
    }

    public int find() {
        int answer = net.named(tape.whole());
        tape.length = 0;
        return answer;
    }

    public int count(int sort) throws IllegalArgumentException {
        if (sort < 0 || sort > 15) {
            throw new IllegalArgumentException("no such sort");
        }
        return sort < SORTS ? net.count[sort] : sort < 10 ? countTold(sort) : countFound(sort);
    }

    private int countTold(int sort) {
        switch (sort) {
            case 5:
                return meters.count;
            case 6:
                return relays.count;
            case 7:
                return rules.count;
            case 8:
                return rules.stepCount;
            default:
                return tape.length;
        }
    }

    private int countFound(int sort) {
        Flow now = now();
        switch (sort) {
            case 10:
                return now.shape.nodes;
            case 11:
                return now.shape.islands;
            case 12:
                return now.shape.lives;
            case 13:
                return now.stuckCount;
            case 14:
                now.countOver();
                return now.overs;
            default:
                return now.lost;
        }
    }

    public int name(int sort, int i, int k) {
        return net.has(sort, i) ? Tape.byteOf(net.names[sort][i], k) : NONE;
    }

    public int get(int sort, int i, int field) throws IndexOutOfBoundsException, IllegalArgumentException {
        if (!net.has(sort, i)) {
            throw new IndexOutOfBoundsException("no such object");
        }
        if (field < 0 || field >= Net.WIDTH[sort]) {
            throw new IllegalArgumentException("no such field");
        }
        return net.at(sort, i, field);
    }

    public int set(int sort, int i, int field, int v) throws IndexOutOfBoundsException, IllegalArgumentException {
        if (!net.has(sort, i)) {
            throw new IndexOutOfBoundsException("no such object");
        }
        if (!net.allows(sort, i, field, v)) {
            throw new IllegalArgumentException("no such field or number");
        }
        int was = net.at(sort, i, field);
        net.put(sort, i, field, v);
        changed();
        return was;
    }

    public void keep(int k) throws IllegalArgumentException {
        if (k < 0 || k >= KEPT) {
            throw new IllegalArgumentException("no such place");
        }
        kept[k].copyValues(net);
        isKept[k] = true;
    }

    public void back(int k) throws IllegalArgumentException, IllegalStateException {
        if (k < 0 || k >= KEPT) {
            throw new IllegalArgumentException("no such place");
        }
        if (!isKept[k]) {
            throw new IllegalStateException("none are kept so");
        }
        net.copyValues(kept[k]);
        changed();
    }

    /** What every call that changes the net does behind it. */
    private void changed() {
        looked = false;
        meters.known = false;
        shorts.known = false;
        dispatch.known = false;
        relays.running = false;
    }

    private Flow now() {
        if (!looked) {
            flow.look();
            looked = true;
        }
        return flow;
    }

    private void testBar(int bar) {
        if (!net.has(BAR, bar)) {
            throw new IndexOutOfBoundsException("no such bar");
        }
    }

    private void testLine(int line) {
        if (!net.has(LINE, line)) {
            throw new IndexOutOfBoundsException("no such line");
        }
    }

    private void testMachine(int machine) {
        if (!net.has(MACHINE, machine)) {
            throw new IndexOutOfBoundsException("no such machine");
        }
    }

    private static void testWithin(int v, int least, int most) {
        if (v < least || v > most) {
            throw new IllegalArgumentException("a number is not as told");
        }
    }

    // ---------------------------------------------------------------- flows

    public int bar(int bar, int what) throws IndexOutOfBoundsException, IllegalArgumentException {
        testBar(bar);
        testWithin(what, 0, 4);
        Flow now = now();
        int island = now.shape.island[bar];
        switch (what) {
            case 0:
                return now.shape.node[bar];
            case 1:
                return island;
            case 2:
                return now.shape.live[island] ? 1 : 0;
            case 3:
                return now.stuck[island] ? 1 : 0;
            default:
                return now.shape.live[island] ? 1 : maybeLive(bar) ? 2 : 0;
        }
    }

    private boolean maybeLive(int bar) {
        Shape shape = stages[0].shape;
        shape.net.copy(net);
        shape.look(true);
        return shape.live[shape.island[bar]];
    }

    public int angle(int bar) throws IndexOutOfBoundsException {
        testBar(bar);
        now().tellAngle(bar, hand);
        return hand.made();
    }

    public int carries(int line) throws IndexOutOfBoundsException {
        testLine(line);
        now().tellCarried(line, hand);
        return hand.made();
    }

    public int gives(int machine) throws IndexOutOfBoundsException {
        testMachine(machine);
        now().tellGiven(machine, hand);
        return hand.made();
    }

    public int figures(int part) throws IllegalArgumentException {
        testWithin(part, 0, 1);
        return hand.length(part);
    }

    public int figure(int part, int i) throws IllegalArgumentException {
        testWithin(part, 0, 1);
        return hand.digit(part, i);
    }

    public int screen() {
        Flow now = now();
        now.tryLines(stages[0]);
        return now.troubles;
    }

    public int trouble(int k, int what) throws IndexOutOfBoundsException, IllegalArgumentException {
        Flow now = now();
        now.tryLines(stages[0]);
        if (k < 0 || k >= now.troubles) {
            throw new IndexOutOfBoundsException("no such line");
        }
        testWithin(what, 0, 3);
        return now.troubleOf[k * 4 + what];
    }

    // ---------------------------------------------------------------- estimates

    public int meter(int kind, int at, int v, int w)
            throws IllegalArgumentException, IndexOutOfBoundsException, IllegalStateException {
        testWithin(kind, 0, 2);
        if (!net.has(kind == 0 ? LINE : BAR, at)) {
            throw new IndexOutOfBoundsException("no such line or bar");
        }
        testWithin(v, -99999, 99999);
        testWithin(w, 1, 99);
        if (meters.count >= Meters.MOST) {
            throw new IllegalStateException("there are 32");
        }
        return meters.told(kind, at, v, w);
    }

    public boolean strike(int meter, boolean is) throws IndexOutOfBoundsException {
        testMeter(meter);
        return meters.strikes(meter, is);
    }

    private void testMeter(int meter) {
        if (meter < 0 || meter >= meters.count) {
            throw new IndexOutOfBoundsException("no such meter");
        }
    }

    private Meters estimated() {
        now();
        meters.solve();
        return meters;
    }

    public int seen(int bar) throws IndexOutOfBoundsException {
        testBar(bar);
        estimated();
        return meters.whole[flow.shape.island[bar]] ? 2 : meters.seen[flow.shape.node[bar]] ? 1 : 0;
    }

    public int estimate(int bar) throws IndexOutOfBoundsException, IllegalStateException {
        testBar(bar);
        estimated();
        if (!meters.whole[flow.shape.island[bar]]) {
            throw new IllegalStateException("its island is not whole");
        }
        meters.tellAngle(bar, hand);
        return hand.made();
    }

    public int rest(int meter, int what)
            throws IndexOutOfBoundsException, IllegalArgumentException, IllegalStateException {
        testMeter(meter);
        testWithin(what, 0, 1);
        estimated();
        if (!meters.isWhole(meter) || what == 1 && meters.struck[meter]) {
            throw new IllegalStateException("its island is not whole, or it is struck");
        }
        meters.tellRest(meter, what, hand);
        return hand.made();
    }

    public int worst() {
        return estimated().greatest();
    }

    // ---------------------------------------------------------------- shorts

    public void shortAt(int kind, int bar, int z) throws IndexOutOfBoundsException, IllegalArgumentException {
        testBar(bar);
        testWithin(kind, 0, 3);
        testWithin(z, 0, 99);
        net.putShort(kind, bar, NONE, 0, z);
        changed();
    }

    public void shortOn(int kind, int line, int k, int z)
            throws IndexOutOfBoundsException, IllegalArgumentException {
        testLine(line);
        testWithin(kind, 0, 3);
        testWithin(k, 1, 15);
        testWithin(z, 0, 99);
        net.putShort(kind, NONE, line, k, z);
        changed();
    }

    public boolean clearShort() {
        boolean was = net.hasShort();
        net.putShort(NONE, NONE, NONE, 0, 0);
        changed();
        return was;
    }

    private Shorts shorted() {
        now();
        shorts.solve();
        return shorts;
    }

    public int into(int s) throws IllegalArgumentException {
        testWithin(s, 0, 2);
        shorted().tellInto(s, hand);
        return hand.made();
    }

    public int voltage(int bar, int s) throws IndexOutOfBoundsException, IllegalArgumentException {
        testBar(bar);
        testWithin(s, 0, 4);
        shorted().volts(flow.shape.node[bar]);
        shorts.tell(s, hand);
        return hand.made();
    }

    public int current(int line, int end, int s) throws IndexOutOfBoundsException, IllegalArgumentException {
        testLine(line);
        testWithin(end, 0, 1);
        testWithin(s, 0, 4);
        shorted().currents(line, end);
        shorts.tell(s, hand);
        return hand.made();
    }

    // ---------------------------------------------------------------- relays

    public int relay(int line, int end, int sw, int kind)
            throws IndexOutOfBoundsException, IllegalArgumentException, IllegalStateException {
        testLine(line);
        testSwitch(sw);
        testWithin(end, 0, 1);
        testWithin(kind, 0, 1);
        if (relays.count >= Relays.MOST) {
            throw new IllegalStateException("there are 16");
        }
        changed();
        return relays.told(line, end, sw, kind);
    }

    private void testSwitch(int sw) {
        if (!net.has(SWITCH, sw)) {
            throw new IndexOutOfBoundsException("no such switch");
        }
    }

    public int row(int relay, int setting, int delay)
            throws IndexOutOfBoundsException, IllegalArgumentException, IllegalStateException {
        if (relay < 0 || relay >= relays.count) {
            throw new IndexOutOfBoundsException("no such relay");
        }
        testWithin(setting, 0, 99999);
        testWithin(delay, 0, MOST_TIME);
        if (relays.rowCount[relay] >= Relays.ROWS) {
            throw new IllegalStateException("it has 4");
        }
        changed();
        return relays.rowTold(relay, setting, delay);
    }

    public boolean fails(int sw, boolean is) throws IndexOutOfBoundsException {
        testSwitch(sw);
        boolean was = relays.failing[sw];
        relays.failing[sw] = is;
        changed();
        return was;
    }

    public int backup(int us) throws IllegalArgumentException {
        testWithin(us, 0, MOST_TIME);
        int was = relays.later;
        relays.later = us;
        changed();
        return was;
    }

    public boolean met(int relay, int row) throws IndexOutOfBoundsException {
        if (relay < 0 || relay >= relays.count || row < 0 || row >= relays.rowCount[relay]) {
            throw new IndexOutOfBoundsException("no such relay or row");
        }
        return relays.isMet(shorted(), relay, row);
    }

    public int begin() throws IllegalStateException {
        if (!net.hasShort()) {
            throw new IllegalStateException("there is no short");
        }
        return relays.start(net);
    }

    public int run(int time) throws IllegalStateException, IllegalArgumentException {
        if (!relays.running) {
            throw new IllegalStateException("there is no run");
        }
        if (time < relays.time) {
            throw new IllegalArgumentException("the run is behind that time");
        }
        return relays.advance(time);
    }

    public int opened(int k, int what) {
        return relays.openedAs(k, what);
    }

    public boolean ordered(int sw) {
        return relays.running && net.has(SWITCH, sw) && relays.hasOrder[sw];
    }

    // ---------------------------------------------------------------- dispatch

    private void testDispatch() {
        if (!dispatch.found) {
            throw new IllegalStateException("there is no dispatch");
        }
    }

    public int dispatch() {
        now();
        dispatch.solve();
        return dispatch.found ? 1 : 0;
    }

    public int cost() throws IllegalStateException {
        now();
        dispatch.solve();
        testDispatch();
        dispatch.tellCost(hand);
        return hand.made();
    }

    public int sets(int machine) throws IndexOutOfBoundsException, IllegalStateException {
        testMachine(machine);
        now();
        dispatch.solve();
        testDispatch();
        dispatch.tellMachine(machine, hand);
        return hand.made();
    }

    public int price(int bar) throws IndexOutOfBoundsException, IllegalStateException {
        testBar(bar);
        now();
        dispatch.solve();
        testDispatch();
        Shape shape = flow.shape;
        if (!shape.live[shape.island[bar]] || !dispatch.trial(bar)) {
            throw new IllegalStateException("its island is dead, or there is none with more");
        }
        dispatch.tellPrice(hand);
        return hand.made();
    }

    // ---------------------------------------------------------------- orders

    public int barred(int what) throws IllegalArgumentException {
        testWithin(what, 0, 1);
        rules.follow(net);
        return what == 0 ? rules.stopped : rules.stoppedBy;
    }

    public int carry() {
        Net reached = rules.follow(net);
        if (rules.done > 0) {
            net.copyValues(reached);
            changed();
        }
        return rules.done;
    }

    public int restore(int n) throws IllegalArgumentException {
        testWithin(n, 1, 3);
        rules.setOut(net);
        return rules.bringBack(n);
    }

    public int step(int k) {
        return k >= 0 && k < rules.foundCount ? rules.found[k] : NONE;
    }

    // ---------------------------------------------------------------- texts

    /** The bytes that were fed, and the words in them, read one by one. */
    private static final class Tape {
        static final int MOST = 4000;

        /** The keys, each by its place in the row KEYS; the first five are the sorts. */
        static final int OPEN = 5;
        static final int CLOSED = 6;
        static final int NO = 7;
        static final int IF = 8;
        static final int AND = 9;
        static final int OR = 10;
        static final int NOT = 11;
        static final int THEN = 12;
        static final int CLOSE = 13;
        static final int EARTH = 14;
        static final int FREE = 15;
        static final int TAG = 16;
        static final int UNTAG = 17;
        static final int IT = 18;
        static final int FROM = 19;
        static final int TO = 20;
        static final int IS_TAGGED = 21;
        static final int LIVE = 22;
        static final int IS_EARTHED = 23;
        static final int JOINED = 24;
        static final int LOST = 25;
        static final int OVER = 26;
        static final int LOOPS = 27;
        static final int ABOVE = 28;
        static final int BELOW = 29;
        static final int IS = 30;
        private static final int KEY_COUNT = 31;
        private static final String FIRST_KEYS = "bar switch line machine load open closed no if and or not then ";
        private static final String MORE_KEYS =
                "close earth free tag untag it from to tagged live earthed joined lost over loops above below is ";

        private static final int NAME_SIZE = 8;
        private static final int NUMBER_SIZE = 6;
        private static final long AT_END = -2;
        private static final long TOO_LONG = -1;

        private final byte[] bytes = new byte[MOST];
        private final long[] keys = new long[KEY_COUNT];
        private int at;
        private boolean letterFirst;
        int length;

        /** Of the word read last: its place, its bytes in one number, and its number (NONE: it is none). */
        int from;
        long word;
        int number;

        Tape() {
            learn(MORE_KEYS, learn(FIRST_KEYS, 0));
        }

        /** Learns keys from number k on: the number behind them. */
        private int learn(String row, int k) {
            int next = k;
            for (int i = 0; i < row.length(); i++) {
                char c = row.charAt(i);
                if (c == ' ') {
                    next++;
                } else if (next < KEY_COUNT) {
                    keys[next] = keys[next] << 8 | c;
                }
            }
            return next;
        }

        void write(int four) {
            for (int shift = 24; shift >= 0 && length < MOST; shift -= 8) {
                bytes[length] = (byte) (four >>> shift);
                length++;
            }
        }

        void rewind() {
            at = 0;
        }

        /** Reads the next word: whether there was one. */
        boolean next() {
            while (at < length && (bytes[at] == ' ' || bytes[at] == '\n')) {
                at++;
            }
            from = at;
            number = NONE;
            letterFirst = false;
            if (at >= length) {
                word = AT_END;
                return false;
            }
            int first = bytes[at] & 255;
            word = first;
            at++;
            if (isPlain(first)) {
                letterFirst = !isFigure(first);
                readOn(first);
            }
            return true;
        }

        private void readOn(int first) {
            int size = 1;
            int value = first - '0';
            boolean figures = !letterFirst;
            while (at < length && isPlain(bytes[at])) {
                int b = bytes[at];
                at++;
                size++;
                word = size <= NAME_SIZE ? word << 8 | b : TOO_LONG;
                figures = figures && isFigure(b) && size <= NUMBER_SIZE;
                value = figures ? value * 10 + b - '0' : 0;
            }
            number = figures ? value : NONE;
        }

        private static boolean isFigure(int b) {
            return b >= '0' && b <= '9';
        }

        private static boolean isPlain(int b) {
            return b >= '0' && b <= '9' || b >= 'a' && b <= 'z';
        }

        /** The key that the word is, or NONE. */
        int key() {
            for (int k = 0; k < KEY_COUNT; k++) {
                if (keys[k] == word) {
                    return k;
                }
            }
            return NONE;
        }

        boolean isName() {
            return letterFirst && word != TOO_LONG && key() == NONE;
        }

        boolean isSign(char sign) {
            return word == sign;
        }

        /** All bytes as one word; what cannot be a name's bytes is TOO_LONG. */
        long whole() {
            if (length < 1 || length > NAME_SIZE || bytes[0] < 'a' || bytes[0] > 'z') {
                return TOO_LONG;
            }
            long all = 0;
            for (int i = 0; i < length && i < MOST; i++) {
                all = all << 8 | bytes[i] & 255;
            }
            return all;
        }

        /** Byte k of a name, NONE if it has none such. */
        static int byteOf(long name, int k) {
            int size = 0;
            for (long left = name; left > 0 && size < NAME_SIZE; left >>>= 8) {
                size++;
            }
            return k < 0 || k >= size ? NONE : (int) (name >>> 8 * (size - 1 - k)) & 255;
        }
    }

    /** The objects of a net with their fields, and the short. */
    private static final class Net {
        static final int[] MOST = {16, 24, 20, 6, 12};
        static final int[] WIDTH = {1, 5, 6, 11, 2};
        /** How many fields can be set, and where their least and greatest numbers begin in LEAST and GREATEST. */
        private static final int[] SETTABLE = {0, 2, 4, 10, 1};
        private static final int[] BOUNDS = {0, 0, 2, 6, 16};
        private static final int[] LEAST = {0, 1, 0, 1, 1, 0, 0, 0, 1, 0, 0, 0, 0, 0, 0, 0, 0};
        private static final int[] GREATEST = {
            2, 999999, 1, 99, 299, 9999, 1, 9999, 99, 299, 9999, 9999, 999, 9999, 999, 9, 9999};
        /** In a text: how many bars are told, the field of the first, and the first field of the numbers. */
        private static final int[] ENDS = {0, 2, 2, 1, 1};
        private static final int[] FIRST_END = {1, 3, 4, 10, 1};
        private static final int[] FIRST_NUMBER = {0, 1, 1, 2, 0};

        final int[] count = new int[SORTS];
        final int[][] value = new int[SORTS][];
        final long[][] names = new long[SORTS][];
        int shortKind = NONE;
        int shortBar = NONE;
        int shortLine = NONE;
        int shortPart;
        int shortZ;

        Net() {
            for (int sort = 0; sort < SORTS; sort++) {
                value[sort] = new int[MOST[sort] * WIDTH[sort]];
                names[sort] = new long[MOST[sort]];
            }
        }

        boolean has(int sort, int i) {
            return sort >= 0 && sort < SORTS && i >= 0 && i < count[sort];
        }

        int at(int sort, int i, int field) {
            return value[sort][i * WIDTH[sort] + field];
        }

        void put(int sort, int i, int field, int v) {
            value[sort][i * WIDTH[sort] + field] = v;
        }

        boolean is(int sort, int i, int field) {
            return value[sort][i * WIDTH[sort] + field] == 1;
        }

        boolean hasShort() {
            return shortKind != NONE;
        }

        void putShort(int kind, int bar, int line, int part, int z) {
            shortKind = kind;
            shortBar = bar;
            shortLine = line;
            shortPart = part;
            shortZ = z;
        }

        void copyValues(Net other) {
            for (int sort = 0; sort < SORTS; sort++) {
                System.arraycopy(other.value[sort], 0, value[sort], 0, value[sort].length);
            }
        }

        void copy(Net other) {
            copyValues(other);
            System.arraycopy(other.count, 0, count, 0, SORTS);
            for (int sort = 0; sort < SORTS; sort++) {
                System.arraycopy(other.names[sort], 0, names[sort], 0, count[sort]);
            }
            putShort(other.shortKind, other.shortBar, other.shortLine, other.shortPart, other.shortZ);
        }

        /** Whether a field of an object may become v. */
        boolean allows(int sort, int i, int field, int v) {
            return field >= 0 && field < SETTABLE[sort] && isWithin(sort, field, v)
                    && (sort != MACHINE || agrees(i, field, v));
        }

        private static boolean isWithin(int sort, int field, int v) {
            int k = BOUNDS[sort] + field;
            return v >= LEAST[k] && v <= GREATEST[k];
        }

        private boolean agrees(int machine, int field, int v) {
            switch (field) {
                case LO:
                    return v <= at(MACHINE, machine, HI);
                case HI:
                    return v >= at(MACHINE, machine, LO);
                case CHEAP:
                    return v <= at(MACHINE, machine, DEAR);
                case DEAR:
                    return v >= at(MACHINE, machine, CHEAP);
                default:
                    return true;
            }
        }

        /** 100 times the sort and the number of the object of a name, or NONE. */
        int named(long name) {
            for (int sort = 0; sort < SORTS; sort++) {
                for (int i = 0; i < count[sort]; i++) {
                    if (names[sort][i] == name) {
                        return 100 * sort + i;
                    }
                }
            }
            return NONE;
        }

        /** The number of the object of a sort that the tape's word names, or NONE. */
        int named(Tape tape, int sort) {
            for (int i = 0; i < count[sort]; i++) {
                if (names[sort][i] == tape.word) {
                    return i;
                }
            }
            return NONE;
        }

        /** Reads a net: how many bars; with a fault -1 less its place. */
        int read(Tape tape) {
            for (int sort = 0; sort < SORTS; sort++) {
                count[sort] = 0;
            }
            putShort(NONE, NONE, NONE, 0, 0);
            tape.rewind();
            for (int i = 0; i < Tape.MOST && tape.next(); i++) {
                if (!readObject(tape)) {
                    return -1 - tape.from;
                }
            }
            return count[BAR];
        }

        private boolean readObject(Tape tape) {
            int sort = tape.key();
            if (sort < 0 || sort >= SORTS || count[sort] >= MOST[sort]) {
                return false;
            }
            int i = count[sort];
            tape.next();
            if (!tape.isName() || named(tape.word) != NONE) {
                return false;
            }
            names[sort][i] = tape.word;
            blank(sort, i);
            if (!readEnds(tape, sort, i) || sort == SWITCH && !readState(tape, i) || !readNumbers(tape, sort, i)) {
                return false;
            }
            if (sort == MACHINE) {
                put(MACHINE, i, OUTPUT, at(MACHINE, i, LO));
            }
            tape.next();
            count[sort]++;
            return tape.isSign(';');
        }

        /** The fields as they are before the text tells them; HI and D are high, so that LO and C agree. */
        private void blank(int sort, int i) {
            for (int field = 0; field < WIDTH[sort]; field++) {
                put(sort, i, field, 0);
            }
            if (sort == LINE) {
                put(LINE, i, IN, 1);
            } else if (sort == MACHINE) {
                put(MACHINE, i, ON, 1);
                put(MACHINE, i, HI, GREATEST[BOUNDS[MACHINE] + HI]);
                put(MACHINE, i, DEAR, GREATEST[BOUNDS[MACHINE] + DEAR]);
            }
        }

        private boolean readEnds(Tape tape, int sort, int i) {
            int other = NONE;
            for (int end = 0; end < ENDS[sort]; end++) {
                tape.next();
                int bar = named(tape, BAR);
                if (bar == NONE || bar == other) {
                    return false;
                }
                put(sort, i, FIRST_END[sort] + end, bar);
                other = bar;
            }
            return true;
        }

        private boolean readState(Tape tape, int i) {
            tape.next();
            int key = tape.key();
            put(SWITCH, i, STATE, key == Tape.CLOSED ? 1 : 0);
            return key == Tape.CLOSED || key == Tape.OPEN;
        }

        private boolean readNumbers(Tape tape, int sort, int i) {
            for (int field = FIRST_NUMBER[sort]; field < SETTABLE[sort]; field++) {
                tape.next();
                if (!allows(sort, i, field, tape.number)) {
                    return false;
                }
                put(sort, i, field, tape.number);
            }
            return true;
        }
    }

    // ---------------------------------------------------------------- nodes, islands, flows

    /** The nodes and islands of a net. */
    private static final class Shape {
        final Net net;
        /** By bars. */
        final int[] node = new int[BARS];
        final int[] island = new int[BARS];
        /** By bars: the row of the bar's node in a system of equations, NONE if it has none. */
        final int[] row = new int[BARS];
        /** By islands. */
        final boolean[] live = new boolean[BARS];
        /** By lines: the nodes of the ends, and whether it is IN and joins two nodes. */
        final int[][] ends = new int[LINES][2];
        private final boolean[] joins = new boolean[LINES];
        /** By machines: the node, and whether it is ON. */
        final int[] spot = new int[MACHINES];
        final boolean[] on = new boolean[MACHINES];
        int nodes;
        int islands;
        int lives;

        Shape(Net net) {
            this.net = net;
        }

        void look(boolean unknownToo) {
            for (int b = 0; b < BARS; b++) {
                node[b] = b;
                live[b] = false;
            }
            for (int s = 0; s < net.count[SWITCH]; s++) {
                int state = net.at(SWITCH, s, STATE);
                if (state == 1 || state == 2 && unknownToo) {
                    join(node, net.at(SWITCH, s, SWITCH_ENDS), net.at(SWITCH, s, SWITCH_ENDS + 1));
                }
            }
            System.arraycopy(node, 0, island, 0, BARS);
            for (int l = 0; l < net.count[LINE]; l++) {
                ends[l][0] = node[net.at(LINE, l, LINE_ENDS)];
                ends[l][1] = node[net.at(LINE, l, LINE_ENDS + 1)];
                joins[l] = net.is(LINE, l, IN) && ends[l][0] != ends[l][1];
                if (joins[l]) {
                    join(island, ends[l][0], ends[l][1]);
                }
            }
            for (int m = 0; m < net.count[MACHINE]; m++) {
                spot[m] = node[net.at(MACHINE, m, MACHINE_BAR)];
                on[m] = net.is(MACHINE, m, ON);
                live[island[spot[m]]] = live[island[spot[m]]] || on[m];
            }
            tally();
        }

        private static void join(int[] label, int a, int b) {
            int least = Math.min(label[a], label[b]);
            int other = Math.max(label[a], label[b]);
            for (int i = 0; i < label.length && least != other; i++) {
                if (label[i] == other) {
                    label[i] = least;
                }
            }
        }

        private void tally() {
            nodes = 0;
            islands = 0;
            lives = 0;
            for (int b = 0; b < net.count[BAR]; b++) {
                nodes += node[b] == b ? 1 : 0;
                islands += island[b] == b ? 1 : 0;
                lives += island[b] == b && live[b] ? 1 : 0;
            }
        }

        int islandOfLine(int line) {
            return island[ends[line][0]];
        }

        int islandOfMachine(int machine) {
            return island[spot[machine]];
        }

        int islandOfLoad(int load) {
            return island[net.at(LOAD, load, LOAD_BAR)];
        }

        int rowOfEnd(int line, int end) {
            return row[ends[line][end]];
        }

        int rowOfMachine(int machine) {
            return row[spot[machine]];
        }

        int rowOfLoad(int load) {
            return row[net.at(LOAD, load, LOAD_BAR)];
        }

        /** Whether a machine is ON and in a taken island. */
        boolean isMachineIn(int machine, boolean[] taken) {
            return on[machine] && taken[island[spot[machine]]];
        }

        /** Whether a line is IN, in a taken island, and joins two nodes. */
        boolean isLineIn(int line, boolean[] taken) {
            return joins[line] && taken[island[ends[line][0]]];
        }

        /** How many more closed switches and lines that are IN there are than are needed. */
        int loops() {
            int things = islands - net.count[BAR];
            for (int s = 0; s < net.count[SWITCH]; s++) {
                things += net.is(SWITCH, s, STATE) ? 1 : 0;
            }
            for (int l = 0; l < net.count[LINE]; l++) {
                things += net.is(LINE, l, IN) ? 1 : 0;
            }
            return things;
        }

        /** Gives rows to the nodes of the taken islands, to the least of each only with all: how many. */
        int number(boolean[] taken, boolean all) {
            int n = 0;
            for (int b = 0; b < BARS; b++) {
                if (node[b] != b) {
                    row[b] = row[node[b]];
                } else if (b < net.count[BAR] && taken[island[b]] && (all || island[b] != b)) {
                    row[b] = n;
                    n++;
                } else {
                    row[b] = NONE;
                }
            }
            return n;
        }

        /** Lays the lines of the taken islands, but one, into the solver: the product of their X (or Z). */
        long lay(Solver solver, boolean[] taken, int field, int but) {
            long product = 1;
            for (int l = 0; l < net.count[LINE]; l++) {
                if (l != but && isLineIn(l, taken)) {
                    long x = net.at(LINE, l, field);
                    solver.edge(row[ends[l][0]], row[ends[l][1]], solver.inverse(x));
                    product = product * x % solver.prime;
                }
            }
            return product;
        }

        /** How many bits the product of all X + 1 (or Z + 1) of these lines has at most. */
        int bits(boolean[] taken, int field, int but) {
            int bits = 0;
            for (int l = 0; l < net.count[LINE]; l++) {
                bits += l != but && isLineIn(l, taken) ? bitsOf(net.at(LINE, l, field) + 1) : 0;
            }
            return bits;
        }

        static int bitsOf(int v) {
            int bits = 0;
            for (int left = v; left > 0; left >>= 1) {
                bits++;
            }
            return bits;
        }
    }

    /** What machines give and lines carry, and what is in trouble. */
    private static final class Flow {
        /** The sum of what is given and taken, times SHARES, has fewer bits. */
        private static final int INJECTED_BITS = 25;
        private static final int STUCK_MORE = 1;
        private static final int LOST_MORE = 2;
        private static final int OVER_MORE = 3;

        final Shape shape;
        private final Net net;
        private final Solver solver;
        /** By islands: loads less machines, the sum of SHARES (1 for 0), and whether angles are looked for. */
        private final int[] gap = new int[BARS];
        private final int[] total = new int[BARS];
        private final boolean[] solvable = new boolean[BARS];
        final boolean[] stuck = new boolean[BARS];
        /** By nodes: the angle times the whole times the island's total. */
        private final Big[] top = Big.many(BARS, 12);
        private final Big whole = new Big(12);
        private final Big one = new Big(16);
        private final Big other = new Big(16);
        private boolean solved;
        int stuckCount;
        int lost;
        /** How many lines are OVER; NONE: not counted yet. */
        int overs;
        /** How many lines make TROUBLE (NONE: not tried yet), and four numbers of each. */
        int troubles;
        final int[] troubleOf = new int[LINES * 4];

        Flow(Net net, Solver solver) {
            this.net = net;
            this.solver = solver;
            shape = new Shape(net);
        }

        void look() {
            shape.look(false);
            solved = false;
            overs = NONE;
            troubles = NONE;
            lost = 0;
            stuckCount = 0;
            for (int b = 0; b < BARS; b++) {
                gap[b] = 0;
                total[b] = 0;
            }
            addLoads();
            addMachines();
            for (int b = 0; b < BARS; b++) {
                stuck[b] = shape.live[b] && total[b] == 0 && gap[b] != 0;
                solvable[b] = shape.live[b] && !stuck[b];
                total[b] = Math.max(total[b], 1);
                stuckCount += stuck[b] ? 1 : 0;
            }
        }

        private void addLoads() {
            for (int i = 0; i < net.count[LOAD]; i++) {
                int island = shape.islandOfLoad(i);
                int mw = net.at(LOAD, i, LOAD_MW);
                gap[island] += mw;
                lost += shape.live[island] ? 0 : mw;
            }
        }

        private void addMachines() {
            for (int m = 0; m < net.count[MACHINE]; m++) {
                if (shape.on[m]) {
                    int island = shape.islandOfMachine(m);
                    gap[island] -= net.at(MACHINE, m, OUTPUT);
                    total[island] += net.at(MACHINE, m, SHARE);
                }
            }
        }

        /** What a machine gives, times its island's total. */
        private int given(int machine) {
            int island = shape.islandOfMachine(machine);
            if (!shape.isMachineIn(machine, solvable)) {
                return 0;
            }
            return net.at(MACHINE, machine, OUTPUT) * total[island] + net.at(MACHINE, machine, SHARE) * gap[island];
        }

        private void solve() {
            if (solved) {
                return;
            }
            solved = true;
            int n = shape.number(solvable, false);
            solver.start(shape.bits(solvable, LINE_X, NONE) + INJECTED_BITS, top, whole);
            for (int turn = 0; turn < TURNS && solver.more(); turn++) {
                solver.blank(n, n + 1);
                long product = shape.lay(solver, solvable, LINE_X, NONE);
                inject(n);
                if (solver.reduce(n, n, n + 1) == n) {
                    solver.take(shape, top, whole, n, product);
                    solver.close();
                }
            }
            solver.settle(top, BARS);
        }

        private void inject(int column) {
            for (int m = 0; m < net.count[MACHINE]; m++) {
                solver.plus(shape.rowOfMachine(m), column, given(m));
            }
            for (int i = 0; i < net.count[LOAD]; i++) {
                int island = shape.islandOfLoad(i);
                solver.plus(shape.rowOfLoad(i), column, -net.at(LOAD, i, LOAD_MW) * total[island]);
            }
        }

        void tellAngle(int bar, Hand hand) {
            solve();
            hand.above.copy(top[shape.node[bar]]);
            hand.below.copy(whole);
            hand.below.scale(total[shape.island[bar]]);
        }

        void tellGiven(int machine, Hand hand) {
            hand.above.put(given(machine));
            hand.below.put(total[shape.islandOfMachine(machine)]);
        }

        void tellCarried(int line, Hand hand) {
            solve();
            carried(line, hand.above, hand.below);
        }

        /** What a line carries, above and below. */
        private void carried(int line, Big above, Big below) {
            above.put(0);
            below.copy(whole);
            if (shape.isLineIn(line, solvable)) {
                above.copy(top[shape.ends[line][0]]);
                above.less(top[shape.ends[line][1]]);
                below.scale(net.at(LINE, line, LINE_X) * total[shape.islandOfLine(line)]);
            }
        }

        void countOver() {
            if (overs != NONE) {
                return;
            }
            solve();
            overs = 0;
            for (int l = 0; l < net.count[LINE]; l++) {
                carried(l, one, other);
                other.scale(net.at(LINE, l, LIMIT));
                overs += one.compareSize(other) > 0 ? 1 : 0;
            }
        }

        /** Screens all lines; the stage is a net to try them on. */
        void tryLines(Flow stage) {
            if (troubles != NONE) {
                return;
            }
            countOver();
            troubles = 0;
            stage.net.copy(net);
            for (int l = 0; l < net.count[LINE]; l++) {
                if (net.is(LINE, l, IN) && shape.live[shape.islandOfLine(l)]) {
                    stage.net.put(LINE, l, IN, 0);
                    stage.look();
                    stage.countOver();
                    note(l, stage);
                    stage.net.put(LINE, l, IN, 1);
                }
            }
        }

        private void note(int line, Flow stage) {
            int which = stage.stuckCount > stuckCount ? STUCK_MORE
                    : stage.lost > lost ? LOST_MORE : stage.overs > overs ? OVER_MORE : 0;
            int k = troubles * 4;
            if (which != 0 && k + 3 < troubleOf.length) {
                troubleOf[k] = line;
                troubleOf[k + 1] = which;
                troubleOf[k + 2] = stage.lost - lost;
                troubleOf[k + 3] = stage.overs;
                troubles++;
            }
        }
    }

    // ---------------------------------------------------------------- numbers

    /** A whole number of bounded length, changed in place: its sign, and its figures to the base 2^30. */
    private static final class Big {
        private static final int SHIFT = 30;
        private static final long BASE = 1L << SHIFT;
        private static final long MASK = BASE - 1;

        private final long[] limb;
        private int size;
        private boolean minus;

        Big(int limbs) {
            limb = new long[Math.max(limbs, 3)];
        }

        static Big[] many(int count, int limbs) {
            Big[] all = new Big[Math.max(count, 0)];
            for (int i = 0; i < all.length; i++) {
                all[i] = new Big(limbs);
            }
            return all;
        }

        int sign() {
            return size == 0 ? 0 : minus ? -1 : 1;
        }

        boolean isSmall() {
            return size <= 2;
        }

        /** Its value, if it is small. */
        long small() {
            return size == 0 ? 0 : size == 1 ? limb[0] : limb[1] << SHIFT | limb[0];
        }

        void put(long v) {
            minus = v < 0;
            size = 0;
            for (long left = Math.abs(v); left > 0 && size < limb.length; left >>>= SHIFT) {
                limb[size] = left & MASK;
                size++;
            }
        }

        void copy(Big b) {
            size = Math.min(b.size, limb.length);
            minus = b.minus;
            System.arraycopy(b.limb, 0, limb, 0, size);
        }

        void negate() {
            minus = size > 0 && !minus;
        }

        void unsign() {
            minus = false;
        }

        private void trim() {
            while (size > 0 && limb[size - 1] == 0) {
                size--;
            }
            minus = minus && size > 0;
        }

        int compareSize(Big b) {
            if (size != b.size) {
                return size < b.size ? -1 : 1;
            }
            for (int i = size - 1; i >= 0; i--) {
                if (limb[i] != b.limb[i]) {
                    return limb[i] < b.limb[i] ? -1 : 1;
                }
            }
            return 0;
        }

        int compare(Big b) {
            if (minus != b.minus) {
                return minus ? -1 : 1;
            }
            int unsigned = compareSize(b);
            return minus ? -unsigned : unsigned;
        }

        void more(Big b) {
            if (minus == b.minus) {
                grow(b);
            } else if (compareSize(b) >= 0) {
                shrink(this, b);
            } else {
                shrink(b, this);
                minus = b.minus;
            }
        }

        void less(Big b) {
            if (minus != b.minus) {
                grow(b);
            } else if (compareSize(b) >= 0) {
                shrink(this, b);
            } else {
                shrink(b, this);
                minus = !b.minus;
            }
        }

        private void grow(Big b) {
            int most = Math.max(size, b.size);
            long carry = 0;
            for (int i = 0; i < most && i < limb.length; i++) {
                long sum = carry + (i < size ? limb[i] : 0) + (i < b.size ? b.limb[i] : 0);
                limb[i] = sum & MASK;
                carry = sum >>> SHIFT;
            }
            size = Math.min(most, limb.length);
            if (carry > 0 && size < limb.length) {
                limb[size] = carry;
                size++;
            }
        }

        /** This becomes the greater one less the smaller one. */
        private void shrink(Big great, Big small) {
            long borrow = 0;
            int most = Math.min(great.size, limb.length);
            for (int i = 0; i < most; i++) {
                long left = great.limb[i] - (i < small.size ? small.limb[i] : 0) - borrow;
                borrow = left < 0 ? 1 : 0;
                limb[i] = left & MASK;
            }
            while (most > 0 && limb[most - 1] == 0) {
                most--;
            }
            size = most;
            minus = minus && size > 0;
        }

        /** This, which is not below 0, less m, if it is above half of m. */
        void wrap(Big m, Big half) {
            if (compareSize(half) > 0) {
                shrink(m, this);
                minus = true;
            }
        }

        /** This, which is neither a nor b, becomes a b. */
        void product(Big a, Big b) {
            int most = Math.min(a.size + b.size, limb.length);
            for (int i = 0; i < most; i++) {
                limb[i] = 0;
            }
            for (int i = 0; i < a.size && i < most; i++) {
                long f = a.limb[i];
                long carry = 0;
                for (int j = 0; j < b.size && i + j < most; j++) {
                    long t = limb[i + j] + f * b.limb[j] + carry;
                    limb[i + j] = t & MASK;
                    carry = t >>> SHIFT;
                }
                if (i + b.size < most) {
                    limb[i + b.size] = carry;
                }
            }
            size = most;
            minus = a.minus != b.minus;
            trim();
        }

        /** This times f, which has fewer than 32 bits. */
        void scale(long f) {
            long m = Math.abs(f);
            long carry = 0;
            for (int i = 0; i < size; i++) {
                long t = limb[i] * m + carry;
                limb[i] = t & MASK;
                carry = t >>> SHIFT;
            }
            for (; carry > 0 && size < limb.length; carry >>>= SHIFT) {
                limb[size] = carry & MASK;
                size++;
            }
            minus = minus != f < 0;
            trim();
        }

        /** This and m f more, all three not below 0, f of fewer than 32 bits. */
        void moreTimes(Big m, long f) {
            long carry = 0;
            for (int i = 0; i < limb.length && f > 0 && (i < m.size || carry > 0); i++) {
                long t = carry + (i < size ? limb[i] : 0) + (i < m.size ? m.limb[i] * f : 0);
                limb[i] = t & MASK;
                carry = t >>> SHIFT;
                size = Math.max(size, i + 1);
            }
        }

        /** What is left, without sign, by d, which is above 0 and has fewer than 32 bits. */
        long left(long d) {
            long left = 0;
            for (int i = size - 1; i >= 0 && d > 0; i--) {
                left = (left << SHIFT | limb[i]) % d;
            }
            return left;
        }

        /** This by d, likewise: what is left. */
        long shorten(long d) {
            long left = 0;
            for (int i = size - 1; i >= 0 && d > 0; i--) {
                long t = left << SHIFT | limb[i];
                limb[i] = t / d;
                left = t % d;
            }
            trim();
            return left;
        }

        /** This, without sign, by d, which is above 0: the quotient goes to q, and this becomes what is left. */
        void divide(Big d, Big q) {
            q.put(0);
            minus = false;
            if (d.size == 0 || compareSize(d) < 0) {
                return;
            }
            if (d.size == 1) {
                q.copy(this);
                put(q.shorten(d.limb[0]));
                return;
            }
            long f = BASE / (d.limb[d.size - 1] + 1);
            scale(f);
            d.scale(f);
            q.size = Math.max(0, Math.min(size - d.size + 1, q.limb.length));
            for (int j = q.size - 1; j >= 0; j--) {
                q.limb[j] = takeOff(d, j);
            }
            q.trim();
            trim();
            shorten(f);
            d.shorten(f);
        }

        /** Takes d, times 2^30 to the j, off this as often as it goes: how often. */
        private long takeOff(Big d, int j) {
            int n = d.size;
            if (n < 2 || j + n > size) {
                return 0;
            }
            long high = j + n < size ? limb[j + n] : 0;
            long two = high << SHIFT | limb[j + n - 1];
            long often = Math.min(two / Math.max(d.limb[n - 1], 1), MASK);
            long third = limb[j + n - 2];
            for (int turn = 0; turn < 3 && two - often * d.limb[n - 1] < BASE
                    && often * d.limb[n - 2] > (two - often * d.limb[n - 1] << SHIFT | third); turn++) {
                often--;
            }
            long borrow = 0;
            for (int i = 0; i < n; i++) {
                long t = limb[i + j] - often * d.limb[i] - borrow;
                limb[i + j] = t & MASK;
                borrow = -(t >> SHIFT);
            }
            if (j + n < size) {
                limb[j + n] = 0;
            }
            if (borrow > high) {
                addBack(d, j);
                often--;
            }
            return often;
        }

        private void addBack(Big d, int j) {
            long carry = 0;
            for (int i = 0; i < d.size && i + j < size; i++) {
                long t = limb[i + j] + d.limb[i] + carry;
                limb[i + j] = t & MASK;
                carry = t >>> SHIFT;
            }
        }
    }

    /** Systems of equations by one prime at a time; what is told by all of them is put together into wholes. */
    private static final class Solver {
        private static final int ROWS = 32;
        private static final int WIDE = 48;
        /** Above what two numbers below 2^31 need to find their greatest common one. */
        private static final int EUCLID = 64;
        /** How many bits each prime is good for. */
        private static final int PRIME_BITS = 30;
        private static final long[] PRIMES = {
            2147483647L, 2147483629L, 2147483587L, 2147483579L, 2147483563L, 2147483549L,
            2147483543L, 2147483497L, 2147483489L, 2147483477L, 2147483423L, 2147483399L,
            2147483353L, 2147483323L, 2147483269L, 2147483249L, 2147483237L, 2147483179L,
            2147483171L, 2147483137L, 2147483123L, 2147483077L, 2147483069L, 2147483059L,
            2147483053L, 2147483033L, 2147483029L, 2147482951L, 2147482949L, 2147482943L,
            2147482937L, 2147482921L, 2147482877L, 2147482873L, 2147482867L, 2147482859L,
            2147482819L, 2147482817L, 2147482811L, 2147482801L, 2147482763L, 2147482739L,
            2147482697L, 2147482693L, 2147482681L, 2147482663L, 2147482661L, 2147482621L};

        final long[][] cell = new long[ROWS][WIDE];
        /** By columns: the row that leads there, NONE if none does. */
        final int[] leader = new int[WIDE];
        long prime = PRIMES[0];
        private long determinant;
        private final Big modulus = new Big(32);
        private final Big half = new Big(32);
        private long lift;
        private int next;
        private int bitsLeft;

        /** Begins to look for wholes of so many bits at most. */
        void start(int bits) {
            next = 0;
            bitsLeft = bits + 2;
            modulus.put(1);
        }

        void start(int bits, Big[] tops, Big whole) {
            next = 0;
            bitsLeft = bits + 2;
            modulus.put(1);
            whole.put(0);
            for (int i = 0; i < tops.length; i++) {
                tops[i].put(0);
            }
        }

        /** Goes to the next prime, if one is needed. */
        boolean more() {
            if (bitsLeft <= 0 || next >= PRIMES.length) {
                return false;
            }
            prime = PRIMES[next];
            next++;
            lift = inverse(modulus.left(prime));
            return true;
        }

        /** The prime has told all; one that is not closed counts for nothing. */
        void close() {
            modulus.scale(prime);
            bitsLeft -= PRIME_BITS;
        }

        /** Makes x, which is right for the primes before, right for this one, too. */
        void fold(Big x, long value) {
            long more = (value - x.left(prime) + prime) % prime * lift % prime;
            x.moreTimes(modulus, more);
        }

        /** Behind the last prime: gives the first wholes of a row their signs. */
        void settle(Big[] all, int count) {
            half.copy(modulus);
            half.shorten(2);
            for (int i = 0; i < count && i < all.length; i++) {
                all[i].wrap(modulus, half);
            }
        }

        /** Folds a column of solutions by nodes, times the determinant and a product, and these two as the whole. */
        void take(Shape shape, Big[] tops, Big whole, int column, long product) {
            long times = determinant * product % prime;
            fold(whole, times);
            for (int b = 0; b < BARS; b++) {
                int row = shape.row[b];
                if (row >= 0 && row < ROWS && shape.node[b] == b) {
                    fold(tops[b], cell[row][column] * times % prime);
                }
            }
        }

        long times(long product) {
            return determinant * product % prime;
        }

        void blank(int rows, int wide) {
            for (int i = 0; i < rows && i < ROWS; i++) {
                long[] row = cell[i];
                for (int j = 0; j < wide && j < WIDE; j++) {
                    row[j] = 0;
                }
            }
        }

        /** Adds v, perhaps below 0, to a cell; a row NONE has no cells. */
        void plus(int row, int column, long v) {
            if (row >= 0 && row < ROWS && column >= 0 && column < WIDE) {
                cell[row][column] = residue(cell[row][column] + residue(v));
            }
        }

        /** A thing between two nodes, or between one and a node NONE, whose potential is 0; weight not below 0. */
        void edge(int u, int v, long weight) {
            boolean hasU = u >= 0 && u < ROWS;
            boolean hasV = v >= 0 && v < ROWS;
            if (hasU) {
                cell[u][u] = (cell[u][u] + weight) % prime;
            }
            if (hasV) {
                cell[v][v] = (cell[v][v] + weight) % prime;
            }
            if (hasU && hasV) {
                long minus = prime - weight % prime;
                cell[u][v] = (cell[u][v] + minus) % prime;
                cell[v][u] = (cell[v][u] + minus) % prime;
            }
        }

        long residue(long v) {
            long left = v % prime;
            return left < 0 ? left + prime : left;
        }

        /** 1 by v, which is not below 0; 0, if there is none. */
        long inverse(long v) {
            long great = prime;
            long small = v % prime;
            long was = 0;
            long is = 1;
            for (int turn = 0; turn < EUCLID && small > 0; turn++) {
                long often = great / small;
                long left = great - often * small;
                great = small;
                small = left;
                long then = was - often * is;
                was = is;
                is = then;
            }
            return great != 1 ? 0 : was < 0 ? was + prime : was;
        }

        /** Reduces the rows by their first columns, each leader being 1 and alone in its column: the rank. */
        int reduce(int rows, int columns, int wide) {
            determinant = 1;
            int rank = 0;
            for (int c = 0; c < columns && c < WIDE; c++) {
                int r = rank;
                while (r < rows && r < ROWS && cell[r][c] == 0) {
                    r++;
                }
                boolean leads = r < rows && r < ROWS;
                leader[c] = leads ? rank : NONE;
                if (leads) {
                    if (r != rank) {
                        long[] row = cell[r];
                        cell[r] = cell[rank];
                        cell[rank] = row;
                        determinant = prime - determinant;
                    }
                    determinant = determinant * cell[rank][c] % prime;
                    clear(rank, c, rows, wide);
                    rank++;
                }
            }
            return rank;
        }

        private void clear(int rank, int column, int rows, int wide) {
            long[] lead = cell[rank];
            long by = inverse(lead[column]);
            for (int j = column; j < wide && j < WIDE; j++) {
                lead[j] = lead[j] * by % prime;
            }
            for (int i = 0; i < rows && i < ROWS; i++) {
                long[] row = cell[i];
                long f = i == rank ? 0 : prime - row[column];
                if (f != 0 && f != prime) {
                    for (int j = column; j < wide && j < WIDE; j++) {
                        row[j] = (row[j] + f * lead[j]) % prime;
                    }
                }
            }
        }
    }

    /** The number in hand. */
    private static final class Hand {
        private static final int LIMBS = 96;
        private static final int FIGURES = 900;
        private static final long BILLION = 1000000000L;

        final Big above = new Big(LIMBS);
        final Big below = new Big(LIMBS);
        private final Big great = new Big(LIMBS);
        private final Big small = new Big(LIMBS);
        private final Big often = new Big(LIMBS);
        private final int[][] figures = new int[2][FIGURES];
        private final int[] lengths = new int[2];
        private boolean lowest;

        Hand() {
            below.put(1);
        }

        /** A number was put in hand: its sign. */
        int made() {
            lowest = false;
            return above.sign();
        }

        int length(int part) {
            bringLow();
            return lengths[part];
        }

        int digit(int part, int i) {
            bringLow();
            return i < 0 || i >= lengths[part] ? NONE : figures[part][i];
        }

        private void bringLow() {
            if (lowest) {
                return;
            }
            lowest = true;
            boolean below0 = above.sign() < 0;
            Big common = common();
            if (common.sign() > 0) {
                divide(above, common);
                divide(below, common);
            }
            write(0, above);
            write(1, below);
            if (below0) {
                above.negate();
            }
        }

        /** The greatest number that goes in both parts. */
        private Big common() {
            Big a = great;
            Big b = small;
            a.copy(above);
            b.copy(below);
            for (int turn = 0; turn < TURNS && b.sign() != 0; turn++) {
                if (a.isSmall() && b.isSmall()) {
                    putCommon(a, a.small(), b.small());
                    return a;
                }
                a.divide(b, often);
                Big left = a;
                a = b;
                b = left;
            }
            return a;
        }

        private static void putCommon(Big answer, long a, long b) {
            long great = a;
            long small = b;
            for (int turn = 0; turn < TURNS && small > 0; turn++) {
                long left = great % small;
                great = small;
                small = left;
            }
            answer.put(great);
        }

        private void divide(Big part, Big common) {
            part.divide(common, often);
            part.copy(often);
        }

        private void write(int part, Big number) {
            Big left = often;
            left.copy(number);
            left.unsign();
            int n = 0;
            for (int turn = 0; turn < FIGURES && left.sign() != 0; turn++) {
                long nine = left.shorten(BILLION);
                for (int i = 0; i < 9 && n < FIGURES; i++) {
                    figures[part][n] = (int) (nine % 10);
                    nine /= 10;
                    n++;
                }
            }
            while (n > 0 && figures[part][n - 1] == 0) {
                n--;
            }
            if (n == 0) {
                figures[part][0] = 0;
                n = 1;
            }
            lengths[part] = n;
        }
    }

    // ---------------------------------------------------------------- estimates

    /** The meters, and what they tell about the angles. */
    private static final class Meters {
        static final int MOST = 32;
        private static final int OF_LINE = 0;
        private static final int OF_NODE = 1;
        /** An estimate is below 2 to so many times the whole. */
        private static final int ANGLE_BITS = 26;

        private final Shape shape;
        private final Net net;
        private final Solver solver;
        private final int[] kind = new int[MOST];
        private final int[] place = new int[MOST];
        private final int[] value = new int[MOST];
        private final int[] weight = new int[MOST];
        final boolean[] struck = new boolean[MOST];
        int count;
        boolean known;
        /** By nodes, by islands. */
        final boolean[] seen = new boolean[BARS];
        final boolean[] whole = new boolean[BARS];
        /** By nodes the angle, by meters REST, and SPREAD times the weight, all times the common number. */
        private final Big[] top = Big.many(BARS, 32);
        private final Big[] rests = Big.many(MOST, 32);
        private final Big[] spreads = Big.many(MOST, 32);
        private final Big common = new Big(32);
        private final Big[] help = Big.many(4, 96);
        private final long[][] shows = new long[MOST][BARS];
        private final int[] ranks = new int[BARS];

        Meters(Shape shape, Solver solver) {
            this.shape = shape;
            this.net = shape.net;
            this.solver = solver;
        }

        void clear() {
            count = 0;
            known = false;
        }

        int told(int kindTold, int at, int v, int w) {
            int meter = count;
            if (meter < MOST) {
                kind[meter] = kindTold;
                place[meter] = at;
                value[meter] = v;
                weight[meter] = w;
                struck[meter] = false;
                count++;
                known = false;
            }
            return meter;
        }

        boolean strikes(int meter, boolean is) {
            boolean was = struck[meter];
            struck[meter] = is;
            known = false;
            return was;
        }

        private int islandOf(int meter) {
            return kind[meter] == OF_LINE ? shape.island[shape.ends[place[meter]][0]] : shape.island[place[meter]];
        }

        boolean isWhole(int meter) {
            return whole[islandOf(meter)];
        }

        void solve() {
            if (known) {
                return;
            }
            known = true;
            markSeen();
            markWhole();
            weigh();
        }

        /** Adds what a meter shows, by the angles' rows. */
        private void lay(int meter, long[] into) {
            if (kind[meter] == OF_LINE) {
                layLine(place[meter], 1, into);
            } else if (kind[meter] == OF_NODE) {
                int node = shape.node[place[meter]];
                for (int l = 0; l < net.count[LINE]; l++) {
                    if (shape.ends[l][0] == node) {
                        layLine(l, 1, into);
                    }
                    if (shape.ends[l][1] == node) {
                        layLine(l, -1, into);
                    }
                }
            } else {
                layAngle(shape.row[place[meter]], 1, into);
            }
        }

        private void layLine(int line, int sign, long[] into) {
            if (net.is(LINE, line, IN)) {
                long by = solver.inverse(net.at(LINE, line, LINE_X));
                layAngle(shape.rowOfEnd(line, 0), sign > 0 ? by : solver.prime - by, into);
                layAngle(shape.rowOfEnd(line, 1), sign > 0 ? solver.prime - by : by, into);
            }
        }

        private void layAngle(int row, long by, long[] into) {
            if (row >= 0 && row < into.length) {
                into[row] = (into[row] + by) % solver.prime;
            }
        }

        /**
         * A rank by a prime is not above the true one, and the true one by any that does not go in some least
         * determinant that is not 0; so many primes are asked that not all can go in it.
         */
        private void markSeen() {
            for (int b = 0; b < BARS; b++) {
                whole[b] = true;
                ranks[b] = 0;
            }
            int n = shape.number(whole, false);
            int rank = 0;
            solver.start(shape.bits(whole, LINE_X, NONE) + n * 7);
            for (int turn = 0; turn < TURNS && rank < n && solver.more(); turn++) {
                rank = Math.max(rank, rankByPrime(n));
                solver.close();
            }
            for (int b = 0; b < BARS; b++) {
                int row = shape.row[b];
                seen[b] = row < 0 || rank == n || ranks[row] == rank;
            }
        }

        private int rankByPrime(int n) {
            int rows = 0;
            solver.blank(count, n);
            for (int m = 0; m < count; m++) {
                if (!struck[m]) {
                    lay(m, solver.cell[rows]);
                    rows++;
                }
            }
            int rank = solver.reduce(rows, n, n);
            for (int i = 0; i < n; i++) {
                ranks[i] = Math.max(ranks[i], isFixed(i, n) ? rank : rank + 1);
            }
            return rank;
        }

        private boolean isFixed(int column, int n) {
            int row = solver.leader[column];
            if (row < 0) {
                return false;
            }
            for (int j = 0; j < n; j++) {
                if (solver.leader[j] < 0 && solver.cell[row][j] != 0) {
                    return false;
                }
            }
            return true;
        }

        private void markWhole() {
            for (int b = 0; b < net.count[BAR]; b++) {
                if (!seen[shape.node[b]]) {
                    whole[shape.island[b]] = false;
                }
            }
        }

        /** The estimate of all islands that are whole, in one system. */
        private void weigh() {
            int n = shape.number(whole, false);
            clearTops(rests);
            clearTops(spreads);
            solver.start(2 * shape.bits(whole, LINE_X, NONE) + n * Shape.bitsOf(heaviest()) + ANGLE_BITS, top, common);
            for (int turn = 0; turn < TURNS && solver.more(); turn++) {
                solver.blank(n, n + 1 + count);
                long product = fill(n);
                if (solver.reduce(n, n, n + 1 + count) == n) {
                    solver.take(shape, top, common, n, product);
                    foldMeters(n, solver.times(product));
                    solver.close();
                }
            }
            solver.settle(top, BARS);
            solver.settle(rests, count);
            solver.settle(spreads, count);
        }

        private static void clearTops(Big[] all) {
            for (int i = 0; i < all.length; i++) {
                all[i].put(0);
            }
        }

        /** No number on the diagonal is above this. */
        private int heaviest() {
            int lines = net.count[LINE];
            int sum = 1;
            for (int m = 0; m < count; m++) {
                sum += weight[m] * (kind[m] == OF_NODE ? lines * lines : 1);
            }
            return sum;
        }

        /** Lays the system; behind its own columns are the values', then one for each meter: the square of all X. */
        private long fill(int n) {
            for (int m = 0; m < count; m++) {
                for (int j = 0; j < BARS; j++) {
                    shows[m][j] = 0;
                }
                if (isWhole(m)) {
                    lay(m, shows[m]);
                    if (!struck[m]) {
                        addMeter(m, n);
                    }
                }
            }
            long product = 1;
            for (int l = 0; l < net.count[LINE]; l++) {
                if (shape.isLineIn(l, whole)) {
                    long x = net.at(LINE, l, LINE_X);
                    product = product * (x * x) % solver.prime;
                }
            }
            return product;
        }

        private void addMeter(int meter, int n) {
            long[] shown = shows[meter];
            for (int i = 0; i < n && i < BARS; i++) {
                if (shown[i] != 0) {
                    long f = shown[i] * weight[meter] % solver.prime;
                    for (int j = 0; j < n && j < BARS; j++) {
                        solver.plus(i, j, f * shown[j]);
                    }
                    solver.plus(i, n, f * solver.residue(value[meter]));
                    solver.plus(i, n + 1 + meter, shown[i]);
                }
            }
        }

        private void foldMeters(int n, long times) {
            for (int m = 0; m < count; m++) {
                if (isWhole(m)) {
                    long rest = solver.residue(value[m] - dot(m, n, n));
                    solver.fold(rests[m], rest * times % solver.prime);
                    long spread = solver.residue(1 - weight[m] * dot(m, n, n + 1 + m));
                    solver.fold(spreads[m], spread * times % solver.prime);
                }
            }
        }

        private long dot(int meter, int n, int column) {
            long sum = 0;
            for (int i = 0; i < n && i < BARS; i++) {
                sum = (sum + shows[meter][i] * solver.cell[i][column]) % solver.prime;
            }
            return sum;
        }

        void tellAngle(int bar, Hand hand) {
            hand.above.copy(top[shape.node[bar]]);
            hand.below.copy(common);
        }

        /** REST (what 0) or SPREAD of a meter. */
        void tellRest(int meter, int what, Hand hand) {
            hand.above.copy(what == 0 ? rests[meter] : spreads[meter]);
            hand.below.copy(common);
            hand.below.scale(what == 0 ? 1 : weight[meter]);
        }

        /** The worst meter, or NONE. */
        int greatest() {
            int best = NONE;
            for (int m = 0; m < count; m++) {
                if (isWhole(m) && !struck[m] && spreads[m].sign() > 0 && (best == NONE || isWorse(m, best))) {
                    best = m;
                }
            }
            return best;
        }

        private boolean isWorse(int meter, int best) {
            weighed(meter, best, help[2]);
            weighed(best, meter, help[3]);
            return help[2].compareSize(help[3]) > 0;
        }

        /** The square of a meter's REST, times its weight and the other's SPREAD. */
        private void weighed(int meter, int other, Big into) {
            help[0].product(rests[meter], rests[meter]);
            help[0].scale(weight[meter]);
            into.product(help[0], spreads[other]);
        }
    }

    // ---------------------------------------------------------------- shorts

    /** The short of a net: what flows into it, voltages and currents by three sequence nets. */
    private static final class Shorts {
        private static final int E = 1000;
        private static final int PLACE = BARS;
        private static final int AT_BAR_BITS = 2;
        private static final int ON_LINE_BITS = 2 * 13;
        private static final int PHASE_A = 3;

        final Shape shape;
        private final Net net;
        private final Solver solver;
        private final boolean[] taken = new boolean[BARS];
        boolean known;
        private boolean active;
        private boolean grounded;
        private int island;
        private int place;
        /** By nodes, the PLACE behind them: P1 times whole 1, P0 times whole 0. */
        private final Big[] top1 = Big.many(BARS + 1, 16);
        private final Big[] top0 = Big.many(BARS + 1, 16);
        private final Big[] whole = Big.many(2, 16);
        /** I0, I1, I2 are E times these, times whole 0, 1, 1, by below. */
        private final Big[] part = Big.many(3, 96);
        private final Big below = new Big(96);
        /** The numbers 0, 1, 2 asked for last, times below and reach. */
        private final Big[] asked = Big.many(3, 96);
        private final int[] reach = new int[3];
        private final Big[] square = Big.many(2, 96);
        private final Big[] help = Big.many(4, 96);
        /** What a row of a relay compares: first, and second times SETTING's square. */
        private final Big first = new Big(96);
        private final Big second = new Big(96);

        Shorts(Shape shape, Solver solver) {
            this.shape = shape;
            this.net = shape.net;
            this.solver = solver;
        }

        void solve() {
            if (known) {
                return;
            }
            known = true;
            active = net.hasShort() && isThere();
            for (int i = 0; i < 3; i++) {
                part[i].put(0);
            }
            below.put(1);
            if (!active) {
                return;
            }
            sequence(false);
            grounded = isGrounded();
            if (grounded && isOdd()) {
                sequence(true);
            }
            weigh();
        }

        private boolean isOdd() {
            return net.shortKind == 1 || net.shortKind == 3;
        }

        private boolean isOnLine() {
            return net.shortLine != NONE;
        }

        /** Finds the island: whether the short is not void. */
        private boolean isThere() {
            island = isOnLine() ? shape.islandOfLine(net.shortLine) : shape.island[net.shortBar];
            place = isOnLine() ? PLACE : shape.node[net.shortBar];
            for (int b = 0; b < BARS; b++) {
                taken[b] = b == island;
            }
            return shape.live[island] && (!isOnLine() || net.is(LINE, net.shortLine, IN));
        }

        private boolean isGrounded() {
            for (int m = 0; m < net.count[MACHINE]; m++) {
                if (shape.isMachineIn(m, taken) && net.at(MACHINE, m, MACHINE_Z) > 0) {
                    return true;
                }
            }
            return false;
        }

        /** The positive or the zero net: the potentials, if 1 flows in at the place. */
        private void sequence(boolean zero) {
            Big[] tops = zero ? top0 : top1;
            Big all = whole[zero ? 0 : 1];
            int nodes = shape.number(taken, true);
            int n = isOnLine() ? nodes + 1 : nodes;
            int placeRow = isOnLine() ? nodes : shape.row[place];
            solver.start(bits(zero), tops, all);
            for (int turn = 0; turn < TURNS && solver.more(); turn++) {
                solver.blank(n, n + 1);
                long product = lay(zero, nodes);
                solver.plus(placeRow, n, 1);
                if (solver.reduce(n, n, n + 1) == n) {
                    solver.take(shape, tops, all, n, product);
                    if (isOnLine()) {
                        solver.fold(tops[PLACE], solver.cell[placeRow][n] * solver.times(product) % solver.prime);
                    }
                    solver.close();
                }
            }
            solver.settle(tops, BARS + 1);
            if (!isOnLine()) {
                tops[PLACE].copy(tops[place]);
            }
        }

        private int bits(boolean zero) {
            int bits = shape.bits(taken, zero ? LINE_Z : LINE_X, net.shortLine)
                    + (isOnLine() ? ON_LINE_BITS : AT_BAR_BITS);
            for (int m = 0; m < net.count[MACHINE]; m++) {
                if (shape.isMachineIn(m, taken)) {
                    bits += Shape.bitsOf(net.at(MACHINE, m, zero ? MACHINE_Z : MACHINE_X) + 1);
                }
            }
            return bits;
        }

        private long lay(boolean zero, int placeRow) {
            int field = zero ? LINE_Z : LINE_X;
            long product = shape.lay(solver, taken, field, net.shortLine);
            for (int m = 0; m < net.count[MACHINE]; m++) {
                int x = net.at(MACHINE, m, zero ? MACHINE_Z : MACHINE_X);
                if (x > 0 && shape.isMachineIn(m, taken)) {
                    solver.edge(shape.rowOfMachine(m), NONE, solver.inverse(x));
                    product = product * x % solver.prime;
                }
            }
            for (int end = 0; end < 2 && isOnLine(); end++) {
                long x = (long) net.at(LINE, net.shortLine, field) * sixteenths(end);
                solver.edge(shape.rowOfEnd(net.shortLine, end), placeRow, 16 * solver.inverse(x));
                product = product * x % solver.prime;
            }
            return product;
        }

        private int sixteenths(int end) {
            return end == 0 ? net.shortPart : 16 - net.shortPart;
        }

        /** The parts and what is below them, by the kind of the short. */
        private void weigh() {
            Big a = top1[PLACE];
            if (isOdd() && grounded) {
                weighOdd(a, top0[PLACE]);
                return;
            }
            int kind = net.shortKind;
            if (kind == 1) {
                return;
            }
            below.copy(whole[1]);
            below.scale(kind == 3 ? 0 : net.shortZ);
            below.more(a);
            part[1].put(1);
            if (kind != 0) {
                below.more(a);
                part[2].put(-1);
            }
        }

        /** With p = a / whole 1, q = b / whole 0. */
        private void weighOdd(Big a, Big b) {
            Big across = help[0];
            Big along = help[1];
            Big h = help[2];
            across.product(a, whole[0]);
            h.copy(whole[0]);
            h.scale(3 * net.shortZ);
            h.more(b);
            along.product(h, whole[1]);
            if (net.shortKind == 1) {
                below.copy(across);
                below.scale(2);
                below.more(along);
                part[1].copy(whole[0]);
                part[2].copy(whole[0]);
                part[0].copy(whole[1]);
                return;
            }
            part[1].copy(across);
            part[1].more(along);
            part[2].copy(along);
            part[2].negate();
            part[0].product(whole[1], a);
            part[0].negate();
            along.scale(2);
            along.more(across);
            below.product(a, along);
        }

        void tellInto(int s, Hand hand) {
            hand.above.product(part[s], whole[s == 0 ? 0 : 1]);
            hand.above.scale(E);
            hand.below.copy(below);
        }

        /** The voltages of a node become the numbers asked for. */
        void volts(int node) {
            boolean near = active && shape.island[node] == island;
            for (int s = 0; s < 3; s++) {
                reach[s] = 1;
                asked[s].put(0);
                if (near) {
                    asked[s].product(part[s], s == 0 ? top0[node] : top1[node]);
                    asked[s].negate();
                }
            }
            if (shape.live[shape.island[node]]) {
                asked[1].more(below);
            }
            scaleAll(E);
        }

        private void scaleAll(int f) {
            for (int s = 0; s < 3; s++) {
                asked[s].scale(f);
            }
        }

        /** The currents into a line at an end become the numbers asked for. */
        void currents(int line, int end) {
            boolean at = active && line == net.shortLine;
            int near = shape.ends[line][end];
            int far = at ? PLACE : shape.ends[line][1 - end];
            boolean flows = active && net.is(LINE, line, IN) && shape.island[near] == island;
            for (int s = 0; s < 3; s++) {
                Big[] tops = s == 0 ? top0 : top1;
                reach[s] = net.at(LINE, line, s == 0 ? LINE_Z : LINE_X) * (at ? sixteenths(end) : 1);
                asked[s].put(0);
                if (flows) {
                    help[0].copy(tops[far]);
                    help[0].less(tops[near]);
                    asked[s].product(part[s], help[0]);
                }
            }
            scaleAll(at ? 16 * E : E);
        }

        /** Number 0, 1 or 2 asked for, or the square of phase a (3) or b (4). */
        void tell(int s, Hand hand) {
            if (s < PHASE_A) {
                hand.above.copy(asked[s]);
                hand.below.copy(below);
                hand.below.scale(reach[s]);
            } else {
                squares();
                hand.above.copy(square[s - PHASE_A]);
                belowSquares(hand.below);
            }
        }

        /** The squares of both phases, times what belowSquares tells. */
        private void squares() {
            Big sum = help[0];
            Big zero = help[1];
            Big gap = help[2];
            sum.copy(asked[1]);
            sum.more(asked[2]);
            sum.scale(reach[0]);
            gap.copy(asked[1]);
            gap.less(asked[2]);
            gap.scale(reach[0]);
            zero.copy(asked[0]);
            zero.scale(2L * reach[1]);
            help[3].copy(sum);
            help[3].scale(2);
            help[3].more(zero);
            square[0].product(help[3], help[3]);
            zero.less(sum);
            square[1].product(zero, zero);
            help[3].product(gap, gap);
            help[3].scale(3);
            square[1].more(help[3]);
        }

        /** Four squares of below times both reaches. */
        private void belowSquares(Big into) {
            help[0].copy(below);
            help[0].scale(2L * reach[0]);
            help[0].scale(reach[1]);
            into.product(help[0], help[0]);
        }

        /** Makes ready to compare for the rows of a relay: whether one may be met at all. */
        boolean measure(int line, int end, boolean impedance) {
            currents(line, end);
            squares();
            int phase = square[1].compareSize(square[0]) > 0 ? 1 : 0;
            if (!impedance) {
                first.copy(square[phase]);
                belowSquares(second);
                return true;
            }
            boolean may = asked[1].sign() > 0 && square[phase].sign() > 0;
            long far = (long) reach[0] * reach[1];
            second.copy(square[phase]);
            volts(shape.ends[line][end]);
            squares();
            first.copy(square[phase]);
            first.scale(far);
            first.scale(far);
            return may;
        }

        /** Whether the first is above the second times the setting's square. */
        boolean isAbove(int setting) {
            help[0].copy(second);
            help[0].scale(setting);
            help[0].scale(setting);
            return first.compareSize(help[0]) > 0;
        }
    }

    // ---------------------------------------------------------------- relays

    /** The relays with their rows, and the run in which they open switches. */
    private static final class Relays {
        static final int MOST = 16;
        static final int ROWS = 4;
        private static final int FIRST_LATER = 100000;
        private static final long NEVER = Long.MAX_VALUE;
        private static final long PAST = NEVER - 1;

        private final int[] line = new int[MOST];
        private final int[] end = new int[MOST];
        private final int[] opens = new int[MOST];
        private final boolean[] impedance = new boolean[MOST];
        final int[] rowCount = new int[MOST];
        private final int[] setting = new int[MOST * ROWS];
        private final int[] delay = new int[MOST * ROWS];
        int count;
        final boolean[] failing = new boolean[SWITCHES];
        int later = FIRST_LATER;

        boolean running;
        int time;
        private final Net net;
        private final Shorts shorts;
        /** By rows: when the trip of one that is met comes; PAST: it came; NEVER: the row is not met. */
        private final long[] tripAt = new long[MOST * ROWS];
        /** By switches. */
        private final long[] openAt = new long[SWITCHES];
        private final long[] backupAt = new long[SWITCHES];
        final boolean[] hasOrder = new boolean[SWITCHES];
        private final long[][] opened = new long[SWITCHES][2];
        private int openedCount;

        Relays(Solver solver) {
            net = new Net();
            shorts = new Shorts(new Shape(net), solver);
        }

        void clear() {
            count = 0;
            later = FIRST_LATER;
            running = false;
            for (int s = 0; s < SWITCHES; s++) {
                failing[s] = false;
            }
        }

        int told(int ofLine, int atEnd, int sw, int kind) {
            int relay = count;
            if (relay < MOST) {
                line[relay] = ofLine;
                end[relay] = atEnd;
                opens[relay] = sw;
                impedance[relay] = kind == 1;
                rowCount[relay] = 0;
                count++;
            }
            return relay;
        }

        int rowTold(int relay, int set, int waits) {
            int row = rowCount[relay];
            if (row < ROWS) {
                setting[relay * ROWS + row] = set;
                delay[relay * ROWS + row] = waits;
                rowCount[relay]++;
            }
            return row;
        }

        boolean isMet(Shorts by, int relay, int row) {
            boolean may = by.measure(line[relay], end[relay], impedance[relay]);
            return may && by.isAbove(setting[relay * ROWS + row]) != impedance[relay];
        }

        /** Begins a run: how many rows are met. */
        int start(Net as) {
            net.copy(as);
            running = true;
            time = 0;
            openedCount = 0;
            for (int s = 0; s < SWITCHES; s++) {
                openAt[s] = NEVER;
                backupAt[s] = NEVER;
                hasOrder[s] = false;
            }
            for (int i = 0; i < tripAt.length; i++) {
                tripAt[i] = NEVER;
            }
            return look(0);
        }

        /** Looks at the net as it is at a time: how many rows are met. */
        private int look(long now) {
            shorts.shape.look(false);
            shorts.known = false;
            shorts.solve();
            int met = 0;
            for (int relay = 0; relay < count; relay++) {
                boolean may = shorts.measure(line[relay], end[relay], impedance[relay]);
                for (int i = relay * ROWS; i < relay * ROWS + rowCount[relay]; i++) {
                    boolean is = may && shorts.isAbove(setting[i]) != impedance[relay];
                    note(i, is, now);
                    met += is ? 1 : 0;
                }
            }
            return met;
        }

        private void note(int i, boolean is, long now) {
            if (!is) {
                tripAt[i] = NEVER;
            } else if (tripAt[i] == NEVER) {
                tripAt[i] = now + delay[i];
            }
        }

        /** All acts up to a time: how many. */
        int advance(int until) {
            int acts = 0;
            long now = nextTime();
            for (int turn = 0; turn < TURNS && now <= until; turn++) {
                int openings = openAll(now);
                if (openings > 0) {
                    look(now);
                }
                acts += openings + backUpAll(now) + tripAll(now);
                now = nextTime();
            }
            time = until;
            return acts;
        }

        private long nextTime() {
            long next = NEVER;
            for (int s = 0; s < SWITCHES; s++) {
                next = Math.min(next, Math.min(openAt[s], backupAt[s]));
            }
            for (int i = 0; i < tripAt.length; i++) {
                next = Math.min(next, tripAt[i]);
            }
            return next;
        }

        private int openAll(long now) {
            int acts = 0;
            for (int s = 0; s < SWITCHES; s++) {
                if (openAt[s] == now) {
                    openAt[s] = NEVER;
                    net.put(SWITCH, s, STATE, 0);
                    if (openedCount < SWITCHES) {
                        opened[openedCount][0] = s;
                        opened[openedCount][1] = now;
                        openedCount++;
                    }
                    acts++;
                }
            }
            return acts;
        }

        private int backUpAll(long now) {
            int acts = 0;
            for (int s = 0; s < SWITCHES; s++) {
                if (backupAt[s] == now) {
                    backupAt[s] = NEVER;
                    backUp(s, now);
                    acts++;
                }
            }
            return acts;
        }

        private void backUp(int failed, long now) {
            int a = nodeOf(failed, 0);
            int b = nodeOf(failed, 1);
            for (int s = 0; s < net.count[SWITCH]; s++) {
                int c = nodeOf(s, 0);
                int d = nodeOf(s, 1);
                if (s != failed && (a == c || a == d || b == c || b == d)) {
                    command(s, now);
                }
            }
        }

        private int nodeOf(int sw, int atEnd) {
            return shorts.shape.node[net.at(SWITCH, sw, SWITCH_ENDS + atEnd)];
        }

        private int tripAll(long now) {
            int acts = 0;
            for (int i = 0; i < count * ROWS; i++) {
                if (tripAt[i] == now) {
                    tripAt[i] = PAST;
                    acts += command(opens[i / ROWS], now) ? 1 : 0;
                }
            }
            return acts;
        }

        /** Gives a switch an order, if it may get one: whether it did. */
        private boolean command(int s, long now) {
            if (hasOrder[s] || !net.is(SWITCH, s, STATE)) {
                return false;
            }
            hasOrder[s] = true;
            long at = now + net.at(SWITCH, s, TIME);
            if (failing[s]) {
                backupAt[s] = at + later;
            } else {
                openAt[s] = at;
            }
            return true;
        }

        int openedAs(int k, int what) {
            boolean is = running && k >= 0 && k < openedCount && what >= 0 && what <= 1;
            return is ? (int) opened[k][what] : NONE;
        }
    }

    // ---------------------------------------------------------------- dispatch

    /**
     * The dispatch by a dual simplex. A machine's range is cut at its break into parts with one cost each; a
     * variable is a part of a machine or what a line carries above its least. Each row tells a variable by those of
     * the columns, which are 0; a turned variable counts down from its greatest. All cells are wholes, by one
     * common number.
     */
    private static final class Dispatch {
        private static final int PARTS = 2 * MACHINES;
        private static final int COLUMNS = PARTS + 1;
        private static final int ROWS = MACHINES + LINES;
        private static final int ALL_ROWS = ROWS + 1 + MACHINES;
        /** What is told at the start is below 2 to so many times the whole. */
        private static final int START_BITS = 22;

        private final Shape shape;
        private final Net net;
        private final Solver solver;
        private int parts;
        private final int[] machineOf = new int[PARTS];
        private final int[] costOf = new int[PARTS];
        private final int[] startOf = new int[PARTS];
        /** By parts: whether it is turned at the start. */
        private final boolean[] turned = new boolean[PARTS];
        /** By variables: parts, then lines. */
        private final int[] most = new int[PARTS + LINES];
        /** By islands: the part whose row keeps the balance. */
        private final int[] keeper = new int[BARS];
        private int rows;
        private int columns;
        private final int[] rowVariable = new int[ROWS];
        private final int[] columnVariable = new int[COLUMNS];
        private final Big[] cell = Big.many(ALL_ROWS * COLUMNS, 16);
        private final Big common = new Big(16);
        private final Big[] help = Big.many(4, 40);
        /** By machines what they give, then the cost, then the number below all these. */
        private final Big[] best = Big.many(MACHINES + 2, 16);
        boolean known;
        boolean found;

        Dispatch(Shape shape, Solver solver) {
            this.shape = shape;
            this.net = shape.net;
            this.solver = solver;
        }

        void solve() {
            if (known) {
                return;
            }
            known = true;
            found = trial(NONE);
            if (found) {
                for (int m = 0; m < MACHINES; m++) {
                    best[m].copy(at(rows + 1 + m, 0));
                }
                best[MACHINES].copy(at(rows, 0));
                best[MACHINES + 1].copy(common);
            }
        }

        void tellMachine(int machine, Hand hand) {
            hand.above.copy(best[machine]);
            hand.below.copy(best[MACHINES + 1]);
        }

        void tellCost(Hand hand) {
            tellMachine(MACHINES, hand);
        }

        /** How much more the trial made last costs than the dispatch. */
        void tellPrice(Hand hand) {
            hand.above.product(at(rows, 0), best[MACHINES + 1]);
            help[0].product(best[MACHINES], common);
            hand.above.less(help[0]);
            hand.below.product(common, best[MACHINES + 1]);
        }

        private Big at(int row, int column) {
            return cell[row * COLUMNS + column];
        }

        /** Looks for the dispatch with 1 MW more at a bar, if there is a bar: whether there is one. */
        boolean trial(int more) {
            cut();
            if (!share(more)) {
                return false;
            }
            setOut();
            measureLines(more);
            fillParts();
            for (int turn = 0; turn < TURNS; turn++) {
                int row = leaving();
                if (row == NONE) {
                    return true;
                }
                int column = entering(row);
                if (column == NONE) {
                    return false;
                }
                pivot(row, column);
            }
            return false;
        }

        /** Cuts the machines into parts, those that are to be taken first ahead. */
        private void cut() {
            parts = 0;
            for (int m = 0; m < net.count[MACHINE]; m++) {
                if (shape.on[m]) {
                    int range = net.at(MACHINE, m, HI) - net.at(MACHINE, m, LO);
                    int cheap = Math.min(range, Math.max(0, net.at(MACHINE, m, BREAK) - net.at(MACHINE, m, LO)));
                    boolean same = net.at(MACHINE, m, CHEAP) == net.at(MACHINE, m, DEAR);
                    addPart(m, same ? range : cheap, net.at(MACHINE, m, CHEAP));
                    addPart(m, same ? 0 : range - cheap, net.at(MACHINE, m, DEAR));
                }
            }
        }

        /** Of parts alike in cost the later machine's is ahead, for the first machine is to give least. */
        private void addPart(int machine, int size, int cost) {
            if (size <= 0 || parts >= PARTS) {
                return;
            }
            int i = parts;
            for (; i > 0 && (cost < costOf[i - 1] || cost == costOf[i - 1] && machine > machineOf[i - 1]); i--) {
                machineOf[i] = machineOf[i - 1];
                costOf[i] = costOf[i - 1];
                most[i] = most[i - 1];
            }
            machineOf[i] = machine;
            costOf[i] = cost;
            most[i] = size;
            parts++;
        }

        private int islandOf(int part) {
            return shape.islandOfMachine(machineOf[part]);
        }

        /** Gives each live island's load to its parts, as if no line had a limit: whether that goes. */
        private boolean share(int more) {
            for (int b = 0; b < BARS; b++) {
                keeper[b] = NONE;
                if (b < net.count[BAR] && shape.live[b] && !shareIn(b, more)) {
                    return false;
                }
            }
            return true;
        }

        private boolean shareIn(int island, int more) {
            int need = more != NONE && shape.island[more] == island ? 1 : 0;
            for (int i = 0; i < net.count[LOAD]; i++) {
                need += shape.islandOfLoad(i) == island ? net.at(LOAD, i, LOAD_MW) : 0;
            }
            for (int m = 0; m < net.count[MACHINE]; m++) {
                boolean here = shape.on[m] && shape.islandOfMachine(m) == island;
                need -= here ? net.at(MACHINE, m, LO) : 0;
            }
            for (int i = 0; i < parts && need >= 0; i++) {
                if (islandOf(i) == island) {
                    startOf[i] = Math.min(most[i], need);
                    need -= startOf[i];
                    turned[i] = need > 0;
                    if (need == 0 && keeper[island] == NONE) {
                        keeper[island] = i;
                    }
                }
            }
            return need == 0;
        }

        /** Says which variable each row and column is of. */
        private void setOut() {
            rows = 0;
            columns = 1;
            for (int i = 0; i < parts; i++) {
                if (keeper[islandOf(i)] == i) {
                    rowVariable[rows] = i;
                    rows++;
                } else {
                    columnVariable[columns] = i;
                    columns++;
                }
            }
            for (int l = 0; l < net.count[LINE]; l++) {
                if (shape.isLineIn(l, shape.live)) {
                    rowVariable[rows] = PARTS + l;
                    most[PARTS + l] = 2 * net.at(LINE, l, LIMIT);
                    rows++;
                }
            }
            for (int i = 0; i < ALL_ROWS * COLUMNS; i++) {
                cell[i].put(0);
            }
        }

        /** Fills the rows of lines: what they carry at the start, and what each column makes them carry more. */
        private void measureLines(int more) {
            int n = shape.number(shape.live, false);
            common.put(0);
            solver.start(shape.bits(shape.live, LINE_X, NONE) + START_BITS);
            for (int turn = 0; turn < TURNS && solver.more(); turn++) {
                solver.blank(n, n + columns);
                long product = shape.lay(solver, shape.live, LINE_X, NONE);
                injectStart(n, more);
                for (int c = 1; c < columns; c++) {
                    injectColumn(n + c, columnVariable[c]);
                }
                if (solver.reduce(n, n, n + columns) == n) {
                    foldLines(n, solver.times(product));
                    solver.close();
                }
            }
            solver.settle(cell, rows * COLUMNS);
        }

        private void injectStart(int column, int more) {
            for (int i = 0; i < net.count[LOAD]; i++) {
                solver.plus(shape.rowOfLoad(i), column, -net.at(LOAD, i, LOAD_MW));
            }
            for (int m = 0; m < net.count[MACHINE]; m++) {
                if (shape.on[m]) {
                    solver.plus(shape.rowOfMachine(m), column, net.at(MACHINE, m, LO));
                }
            }
            for (int i = 0; i < parts; i++) {
                solver.plus(shape.rowOfMachine(machineOf[i]), column, startOf[i]);
            }
            if (more != NONE) {
                solver.plus(shape.row[more], column, -1);
            }
        }

        private void injectColumn(int column, int part) {
            int way = turned[part] ? -1 : 1;
            int keeps = keeper[islandOf(part)];
            solver.plus(shape.rowOfMachine(machineOf[part]), column, way);
            if (keeps != NONE) {
                solver.plus(shape.rowOfMachine(machineOf[keeps]), column, -way);
            }
        }

        private void foldLines(int n, long times) {
            solver.fold(common, times);
            for (int r = 0; r < rows; r++) {
                int line = rowVariable[r] - PARTS;
                if (line >= 0) {
                    int from = shape.rowOfEnd(line, 0);
                    int to = shape.rowOfEnd(line, 1);
                    long by = solver.inverse(net.at(LINE, line, LINE_X)) * times % solver.prime;
                    for (int c = 0; c < columns; c++) {
                        long fall = (from < 0 ? 0 : solver.cell[from][n + c]) - (to < 0 ? 0 : solver.cell[to][n + c]);
                        long least = c == 0 ? net.at(LINE, line, LIMIT) * times : 0;
                        solver.fold(at(r, c), solver.residue(solver.residue(fall) * by + solver.residue(least)));
                    }
                }
            }
        }

        /** Fills the rows of keepers, of the cost, and of what each machine gives. */
        private void fillParts() {
            for (int m = 0; m < net.count[MACHINE]; m++) {
                if (shape.on[m]) {
                    int low = net.at(MACHINE, m, LO);
                    int cheap = Math.min(low, net.at(MACHINE, m, BREAK));
                    add(rows + 1 + m, 0, low);
                    add(rows, 0, net.at(MACHINE, m, CHEAP) * cheap + net.at(MACHINE, m, DEAR) * (low - cheap));
                }
            }
            for (int i = 0; i < parts; i++) {
                add(rows + 1 + machineOf[i], 0, startOf[i]);
                add(rows, 0, costOf[i] * startOf[i]);
            }
            for (int r = 0; r < rows; r++) {
                if (rowVariable[r] < PARTS) {
                    add(r, 0, startOf[rowVariable[r]]);
                }
            }
            for (int c = 1; c < columns; c++) {
                int part = columnVariable[c];
                int way = turned[part] ? -1 : 1;
                add(rows + 1 + machineOf[part], c, way);
                add(rows, c, way * costOf[part]);
                takeFromKeeper(c, keeper[islandOf(part)], way);
            }
        }

        private void takeFromKeeper(int column, int keeps, int way) {
            for (int r = 0; r < rows; r++) {
                if (rowVariable[r] == keeps) {
                    add(r, column, -way);
                    add(rows + 1 + machineOf[keeps], column, -way);
                    add(rows, column, -way * costOf[keeps]);
                }
            }
        }

        private void add(int row, int column, long v) {
            help[0].copy(common);
            help[0].scale(v);
            at(row, column).more(help[0]);
        }

        /** The row of the first variable that is not within its bounds, turned so that it is below 0; NONE. */
        private int leaving() {
            int found = NONE;
            boolean turn = false;
            for (int r = 0; r < rows; r++) {
                if (found == NONE || rowVariable[r] < rowVariable[found]) {
                    help[0].copy(common);
                    help[0].scale(most[rowVariable[r]]);
                    boolean above = at(r, 0).compare(help[0]) > 0;
                    if (above || at(r, 0).sign() < 0) {
                        found = r;
                        turn = above;
                    }
                }
            }
            if (turn) {
                turn(found);
            }
            return found;
        }

        private void turn(int row) {
            for (int c = 0; c < columns; c++) {
                at(row, c).negate();
            }
            help[0].copy(common);
            help[0].scale(most[rowVariable[row]]);
            at(row, 0).more(help[0]);
        }

        /** The column that comes into a row's place, so that all costs stay not below 0; NONE. */
        private int entering(int row) {
            int found = NONE;
            for (int c = 1; c < columns; c++) {
                if (at(row, c).sign() > 0 && (found == NONE || isAhead(row, c, found))) {
                    found = c;
                }
            }
            return found;
        }

        /** By the costs, then by what the first machine gives, and so on; at last by numbers, so that it ends. */
        private boolean isAhead(int row, int c, int d) {
            for (int r = rows; r <= rows + MACHINES; r++) {
                help[0].product(at(r, c), at(row, d));
                help[1].product(at(r, d), at(row, c));
                int order = help[0].compare(help[1]);
                if (order != 0) {
                    return order < 0;
                }
            }
            return columnVariable[c] < columnVariable[d];
        }

        private void pivot(int row, int column) {
            Big lead = help[2];
            lead.copy(at(row, column));
            for (int r = 0; r <= rows + MACHINES; r++) {
                for (int c = 0; c < columns; c++) {
                    if (r != row && c != column) {
                        update(at(r, c), lead, at(r, column), at(row, c));
                    }
                }
            }
            for (int c = 0; c < columns; c++) {
                at(row, c).negate();
            }
            at(row, column).copy(common);
            common.copy(lead);
            int variable = rowVariable[row];
            rowVariable[row] = columnVariable[column];
            columnVariable[column] = variable;
        }

        /** x becomes (x lead - a b) by the common number, which goes in it. */
        private void update(Big x, Big lead, Big a, Big b) {
            Big now = help[0];
            now.product(x, lead);
            help[1].product(a, b);
            now.less(help[1]);
            boolean minus = now.sign() < 0;
            now.divide(common, help[3]);
            x.copy(help[3]);
            if (minus) {
                x.negate();
            }
        }
    }

    // ---------------------------------------------------------------- orders

    /** The rules, the order, and the rows of switchings that bring load back. */
    private static final class Rules {
        static final int STAGES = 4;
        private static final int MOST = 12;
        private static final int STEPS = 24;
        private static final int BRACKETS = 8;
        private static final int TRIED = 8;
        /** What a text of 4000 bytes can come to, and what can wait in eight brackets. */
        private static final int CODE = 2048;
        private static final int WAITING = 64;

        /** The signs of a rule's code: what is asked of the net (with THEN, and two numbers behind), and the joints. */
        private static final int CLOSED = 0;
        private static final int IS_TAGGED = 1;
        private static final int LIVE = 2;
        private static final int IS_EARTHED = 3;
        private static final int JOINED = 4;
        private static final int LOST = 5;
        private static final int OVER = 6;
        private static final int LOOPS = 7;
        private static final int THEN = 8;
        private static final int ASKED = 16;
        private static final int NOT = 16;
        private static final int AND = 17;
        private static final int OR = 18;
        /** On the stack of joints only; the numbers of these four are in the order in which they bind. */
        private static final int BRACKET = 19;
        /** In the place of an object's number: it, from, to. */
        private static final int IT = -2;
        private static final int FROM = -3;
        private static final int TO = -4;
        private static final int STUCK_OVER = 100;

        /** By acts (open, close, earth, free, tag, untag): the sort, the field, and what it becomes. */
        private static final int[] ACT_SORT = {1, 1, 0, 0, 1, 1};
        private static final int[] ACT_FIELD = {0, 0, 0, 0, 2, 2};
        private static final int[] ACT_VALUE = {0, 1, 1, 0, 1, 0};
        private static final int OPEN = 0;
        private static final int CLOSE = 1;

        private final Flow[] stages;
        private int[] code = new int[CODE];
        private int[] draft = new int[CODE];
        private int drafted;
        private final int[] waiting = new int[WAITING];
        private int waitCount;
        int count;
        private int[] steps = new int[STEPS];
        private int[] draftSteps = new int[STEPS];
        int stepCount;

        /** Of the order followed last: how many steps were done, and the step and the rule that stopped it. */
        int done;
        int stopped;
        int stoppedBy;

        private final int[] tried = new int[TRIED];
        private int triedCount;
        private final int[] choice = new int[STAGES];
        private final int[] oversBySet = new int[1 << TRIED];
        private int leastLost;
        final int[] found = new int[STAGES];
        int foundCount;

        Rules(Flow[] stages) {
            this.stages = stages;
        }

        void clear() {
            count = 0;
            stepCount = 0;
            foundCount = 0;
        }

        // the texts

        int readRules(Tape tape, Net net) {
            int rules = 0;
            drafted = 0;
            tape.rewind();
            for (int i = 0; i < Tape.MOST && tape.next(); i++) {
                if (rules >= MOST || !readRule(tape, net)) {
                    return -1 - tape.from;
                }
                rules++;
            }
            int[] old = code;
            code = draft;
            draft = old;
            count = rules;
            return rules;
        }

        private static int actOf(int key) {
            switch (key) {
                case Tape.OPEN:
                    return OPEN;
                case Tape.CLOSE:
                    return CLOSE;
                case Tape.EARTH:
                    return 2;
                case Tape.FREE:
                    return 3;
                case Tape.TAG:
                    return 4;
                case Tape.UNTAG:
                    return 5;
                default:
                    return NONE;
            }
        }

        /** A rule's code begins with its act and with the place behind it. */
        private boolean readRule(Tape tape, Net net) {
            if (tape.key() != Tape.NO) {
                return false;
            }
            tape.next();
            int act = actOf(tape.key());
            if (act == NONE) {
                return false;
            }
            tape.next();
            if (tape.key() != Tape.IF) {
                return false;
            }
            tape.next();
            int start = drafted;
            put(act);
            put(0);
            if (!readCondition(tape, net, act) || !tape.isSign(';')) {
                return false;
            }
            draft[start + 1] = drafted;
            return true;
        }

        private void put(int sign) {
            if (drafted < CODE) {
                draft[drafted] = sign;
                drafted++;
            }
        }

        /**
         * Reads a condition; the joints that wait for what is behind them stand on a stack. The word behind the
         * condition is to be the one that ends the rule.
         */
        private boolean readCondition(Tape tape, Net net, int act) {
            waitCount = 0;
            int depth = 0;
            for (int turn = 0; turn < Tape.MOST; turn++) {
                if (tape.key() == Tape.NOT) {
                    push(NOT);
                    tape.next();
                }
                if (tape.isSign('(') && depth < BRACKETS) {
                    depth++;
                    push(BRACKET);
                    tape.next();
                } else {
                    int asked = readAsked(tape);
                    if (asked == NONE || !(asked >= LOST ? readBound(tape) : readObjects(tape, net, act, asked))) {
                        return false;
                    }
                    release(NOT);
                    depth = closeBrackets(tape, depth);
                    int joint = tape.key() == Tape.AND ? AND : tape.key() == Tape.OR ? OR : NONE;
                    release(joint == AND ? AND : OR);
                    if (joint == NONE) {
                        return depth == 0;
                    }
                    push(joint);
                    tape.next();
                }
            }
            return false;
        }

        private int closeBrackets(Tape tape, int depth) {
            int left = depth;
            for (int i = 0; i < depth && tape.isSign(')'); i++) {
                left--;
                release(OR);
                waitCount = Math.max(0, waitCount - 1);
                release(NOT);
                tape.next();
            }
            return left;
        }

        private void push(int joint) {
            if (waitCount < waiting.length) {
                waiting[waitCount] = joint;
                waitCount++;
            }
        }

        /** Puts the joints that wait on the top, down to the last one that binds as this one does. */
        private void release(int joint) {
            while (waitCount > 0 && waiting[waitCount - 1] <= joint) {
                waitCount--;
                put(waiting[waitCount]);
            }
        }

        /** Reads what is asked, perhaps with then ahead: its sign without THEN, or NONE. */
        private int readAsked(Tape tape) {
            boolean then = tape.key() == Tape.THEN;
            if (then) {
                tape.next();
            }
            int asked = askedOf(tape.key());
            if (asked != NONE) {
                put(then ? asked + THEN : asked);
                tape.next();
            }
            return asked;
        }

        private static int askedOf(int key) {
            switch (key) {
                case Tape.CLOSED:
                    return CLOSED;
                case Tape.IS_TAGGED:
                    return IS_TAGGED;
                case Tape.LIVE:
                    return LIVE;
                case Tape.IS_EARTHED:
                    return IS_EARTHED;
                case Tape.JOINED:
                    return JOINED;
                case Tape.LOST:
                    return LOST;
                case Tape.OVER:
                    return OVER;
                case Tape.LOOPS:
                    return LOOPS;
                default:
                    return NONE;
            }
        }

        /** OP and NUMBER: the sign that a comparison has to have, and the number. */
        private boolean readBound(Tape tape) {
            int key = tape.key();
            if (key != Tape.ABOVE && key != Tape.BELOW && key != Tape.IS) {
                return false;
            }
            put(key == Tape.ABOVE ? 1 : key == Tape.BELOW ? -1 : 0);
            tape.next();
            if (tape.number == NONE) {
                return false;
            }
            put(tape.number);
            tape.next();
            return true;
        }

        private boolean readObjects(Tape tape, Net net, int act, int asked) {
            int sort = asked == CLOSED || asked == IS_TAGGED ? SWITCH : BAR;
            int words = asked == JOINED ? 2 : 1;
            for (int i = 0; i < words; i++) {
                int object = objectOf(tape, net, act, sort);
                if (object == NONE) {
                    return false;
                }
                put(object);
                tape.next();
            }
            if (words == 1) {
                put(0);
            }
            return true;
        }

        private static int objectOf(Tape tape, Net net, int act, int sort) {
            switch (tape.key()) {
                case Tape.IT:
                    return ACT_SORT[act] == sort ? IT : NONE;
                case Tape.FROM:
                    return ACT_SORT[act] == SWITCH && sort == BAR ? FROM : NONE;
                case Tape.TO:
                    return ACT_SORT[act] == SWITCH && sort == BAR ? TO : NONE;
                default:
                    return net.named(tape, sort);
            }
        }

        int readOrder(Tape tape, Net net) {
            int read = 0;
            tape.rewind();
            for (int i = 0; i < Tape.MOST && tape.next(); i++) {
                int act = actOf(tape.key());
                if (read >= STEPS || act == NONE) {
                    return -1 - tape.from;
                }
                tape.next();
                int object = net.named(tape, ACT_SORT[act]);
                if (object == NONE) {
                    return -1 - tape.from;
                }
                tape.next();
                if (!tape.isSign(';')) {
                    return -1 - tape.from;
                }
                draftSteps[read] = act * 100 + object;
                read++;
            }
            int[] old = steps;
            steps = draftSteps;
            draftSteps = old;
            stepCount = read;
            return read;
        }

        // the order

        /** Does the order's steps on the stages, up to the first that is barred: the net that is reached. */
        Net follow(Net net) {
            Flow before = stages[0];
            Flow behind = stages[1];
            before.shape.net.copy(net);
            before.look();
            before.countOver();
            stopped = NONE;
            stoppedBy = NONE;
            for (done = 0; done < stepCount; done++) {
                int act = steps[done] / 100;
                int object = steps[done] % 100;
                behind.shape.net.copy(before.shape.net);
                if (behind.shape.net.at(ACT_SORT[act], object, ACT_FIELD[act]) == ACT_VALUE[act]) {
                    stopped = done;
                    break;
                }
                behind.shape.net.put(ACT_SORT[act], object, ACT_FIELD[act], ACT_VALUE[act]);
                behind.look();
                behind.countOver();
                stoppedBy = firstAgainst(act, object, before, behind);
                if (stoppedBy != NONE) {
                    stopped = done;
                    break;
                }
                Flow free = before;
                before = behind;
                behind = free;
            }
            return before.shape.net;
        }

        /** The first rule that bars an act, or NONE. */
        private int firstAgainst(int act, int object, Flow before, Flow behind) {
            int start = 0;
            for (int rule = 0; rule < count; rule++) {
                int next = code[start + 1];
                if (code[start] == act && holds(start + 2, next, object, before, behind)) {
                    return rule;
                }
                start = Math.max(0, Math.min(next, CODE - 2));
            }
            return NONE;
        }

        /** Whether a rule's code holds; what it told so far is kept in the bits of a number. */
        private boolean holds(int from, int to, int object, Flow before, Flow behind) {
            long told = 0;
            int i = from;
            while (i < to && i < CODE) {
                int sign = code[i];
                boolean last = (told & 1) == 1;
                boolean ahead = (told & 2) == 2;
                if (sign < ASKED) {
                    Flow flow = sign >= THEN ? behind : before;
                    told = told << 1 | (i + 2 < CODE && isSo(i, sign % THEN, object, flow) ? 1 : 0);
                    i += 3;
                } else {
                    if (sign == NOT) {
                        told ^= 1;
                    } else {
                        boolean both = sign == AND ? last && ahead : last || ahead;
                        told = told >>> 2 << 1 | (both ? 1 : 0);
                    }
                    i++;
                }
            }
            return (told & 1) == 1;
        }

        private boolean isSo(int i, int asked, int object, Flow flow) {
            int first = code[i + 1];
            int second = code[i + 2];
            Shape shape = flow.shape;
            switch (asked) {
                case CLOSED:
                    return shape.net.is(SWITCH, meant(first, object, shape.net), STATE);
                case IS_TAGGED:
                    return shape.net.is(SWITCH, meant(first, object, shape.net), TAGGED);
                case LIVE:
                    return shape.live[shape.island[meant(first, object, shape.net)]];
                case IS_EARTHED:
                    return shape.net.is(BAR, meant(first, object, shape.net), EARTHED);
                case JOINED:
                    return shape.node[meant(first, object, shape.net)] == shape.node[meant(second, object, shape.net)];
                case LOST:
                    return Integer.compare(flow.lost, second) == first;
                case OVER:
                    return Integer.compare(flow.stuckCount > 0 ? STUCK_OVER : flow.overs, second) == first;
                default:
                    return Integer.compare(shape.loops(), second) == first;
            }
        }

        private static int meant(int told, int object, Net net) {
            switch (told) {
                case IT:
                    return object;
                case FROM:
                    return net.at(SWITCH, object, SWITCH_ENDS);
                case TO:
                    return net.at(SWITCH, object, SWITCH_ENDS + 1);
                default:
                    return told;
            }
        }

        // bringing load back

        /** Says which switches are to be tried, and what the empty row leaves lost. */
        void setOut(Net net) {
            triedCount = 0;
            for (int s = 0; s < net.count[SWITCH] && triedCount < TRIED; s++) {
                if (net.at(SWITCH, s, STATE) == 0 && !net.is(SWITCH, s, TAGGED)) {
                    tried[triedCount] = s;
                    triedCount++;
                }
            }
            for (int set = 0; set < oversBySet.length; set++) {
                oversBySet[set] = NONE;
            }
            Flow first = stages[0];
            first.shape.net.copy(net);
            first.look();
            first.countOver();
            leastLost = first.lost;
            foundCount = 0;
        }

        /**
         * Tries all rows with n closings at most in the order of their numbers: how many the best one closes. The
         * choice tells, by places in the path, which of the switches tried it is.
         */
        int bringBack(int n) {
            int most = Math.min(n, STAGES - 1);
            int depth = 0;
            int set = 0;
            choice[0] = NONE;
            for (int turn = 0; turn < TURNS && depth >= 0; turn++) {
                choice[depth]++;
                int i = choice[depth];
                if (i >= triedCount) {
                    depth--;
                    set = depth < 0 ? 0 : set & ~(1 << choice[depth]);
                } else if ((set >> i & 1) == 0 && isFree(depth, tried[i], set | 1 << i)) {
                    weigh(depth + 1, stages[depth + 1].lost);
                    if (depth + 1 < most) {
                        depth++;
                        set |= 1 << i;
                        choice[depth] = NONE;
                    }
                }
            }
            return foundCount;
        }

        /** Whether a switch may be closed behind the path; sets of closed switches alike have lines alike OVER. */
        private boolean isFree(int depth, int sw, int set) {
            Flow before = stages[depth];
            Flow behind = stages[depth + 1];
            behind.shape.net.copy(before.shape.net);
            behind.shape.net.put(SWITCH, sw, STATE, 1);
            behind.look();
            behind.overs = oversBySet[set];
            behind.countOver();
            oversBySet[set] = behind.overs;
            return behind.overs == 0 && behind.stuckCount == 0 && firstAgainst(CLOSE, sw, before, behind) == NONE;
        }

        private void weigh(int length, int lost) {
            if (lost < leastLost || lost == leastLost && length < foundCount) {
                leastLost = lost;
                foundCount = length;
                for (int k = 0; k < length; k++) {
                    found[k] = tried[choice[k]];
                }
            }
        }
    }
}
