/** Promises 28 to 42: shorts, relays and the run, by answers worked out by hand. */
public final class ShortPromisesTest {
    /** Seen from b the machine and the line are 6 and 11 away. */
    private static final String NET = "bar a;bar b;bar c;bar d;switch s a c open 9;line l a b 4 8 100;line k a b 1 1 1;"
            + "line n c d 5 5 1;machine g a 2 3 0 9 1 1 1 1;machine h d 7 0 0 9 1 1 1 1;";
    /** g - s - l - t - r: switches at both ends of the line l; u leads on from a, v from b. */
    private static final String PROTECTED = "bar a;bar b;bar c;bar d;bar e;switch s a b closed 10;"
            + "switch t c d closed 20;switch u a e closed 30;switch v b e open 40;line l b c 4 8 100;"
            + "machine g a 2 3 0 9 1 1 1 1;machine h d 2 3 0 9 1 1 1 1;";

    private ShortPromisesTest() {
    }

    public static void main(String[] args) {
        puts();
        kinds();
        onLine();
        voids();
        grounds();
        voltages();
        currents();
        relays();
        mets();
        noFirst();
        runs();
        stopsAndGoes();
        fails();
        orderOfActs();
        endsOfRuns();
        Check.close("ShortPromisesTest");
    }

    private static GridHouse house() {
        GridHouse x = Check.house(NET);
        x.set(2, 1, 0, 0);
        return x;
    }

    private static void puts() {
        GridHouse x = house();
        Check.promise(28);
        Check.refuses("shortAt", Check.INDEX, () -> x.shortAt(9, 4, 0));
        Check.refuses("shortAt", Check.INDEX, () -> x.shortAt(0, -1, 0));
        Check.refuses("shortAt", Check.ARGUMENT, () -> x.shortAt(4, 0, 0));
        Check.refuses("shortAt", Check.ARGUMENT, () -> x.shortAt(-1, 0, 0));
        Check.refuses("shortAt", Check.ARGUMENT, () -> x.shortAt(0, 0, 100));
        Check.refuses("shortAt", Check.ARGUMENT, () -> x.shortAt(0, 0, -1));
        Check.promise(29);
        Check.refuses("shortOn", Check.INDEX, () -> x.shortOn(9, 3, 1, 0));
        Check.refuses("shortOn", Check.INDEX, () -> x.shortOn(0, -1, 1, 0));
        Check.refuses("shortOn", Check.ARGUMENT, () -> x.shortOn(4, 0, 1, 0));
        Check.refuses("shortOn", Check.ARGUMENT, () -> x.shortOn(0, 0, 0, 0));
        Check.refuses("shortOn", Check.ARGUMENT, () -> x.shortOn(0, 0, 16, 0));
        Check.refuses("shortOn", Check.ARGUMENT, () -> x.shortOn(0, 0, 1, 100));
        Check.promise(30);
        Check.is("clearShort", x.clearShort(), false);
        x.shortAt(3, 3, 99);
        Check.is("clearShort", x.clearShort(), true);
        Check.is("clearShort", x.clearShort(), false);
        x.shortOn(3, 2, 15, 99);
        Check.is("clearShort", x.clearShort(), true);
        Check.makes("into", x, x.into(1), 0, "0/1");
        x.shortOn(0, 0, 4, 0);
        x.shortAt(0, 1, 0);
        Check.makes("one short only", x, x.into(1), 1, "500/3");
    }

    private static void into(GridHouse x, String zero, String one, String two, int[] signs) {
        String[] due = {zero, one, two};
        for (int s = 0; s < 3; s++) {
            Check.makes("into " + s, x, x.into(s), signs[s], due[s]);
        }
    }

    private static void kinds() {
        Check.promise(31);
        GridHouse x = house();
        into(x, "0/1", "0/1", "0/1", new int[] {0, 0, 0});
        x.shortAt(0, 1, 0);
        into(x, "0/1", "500/3", "0/1", new int[] {0, 1, 0});
        x.shortAt(0, 1, 4);
        into(x, "0/1", "100/1", "0/1", new int[] {0, 1, 0});
        x.shortAt(1, 1, 1);
        into(x, "500/13", "500/13", "500/13", new int[] {1, 1, 1});
        x.shortAt(2, 1, 0);
        into(x, "0/1", "250/3", "250/3", new int[] {0, 1, -1});
        x.shortAt(2, 1, 8);
        into(x, "0/1", "50/1", "50/1", new int[] {0, 1, -1});
        x.shortAt(3, 1, 0);
        into(x, "250/7", "2125/21", "1375/21", new int[] {-1, 1, -1});
        // h is 11 + 3
        x.shortAt(3, 1, 1);
        into(x, "500/17", "5000/51", "3500/51", new int[] {-1, 1, -1});
        Check.refuses("into", Check.ARGUMENT, () -> x.into(3));
        Check.refuses("into", Check.ARGUMENT, () -> x.into(-1));
        Check.inHand("a call that throws", x, "3500/51");
    }

    private static void onLine() {
        Check.promise(31);
        GridHouse x = house();
        x.shortOn(0, 0, 4, 0);
        Check.makes("into", x, x.into(1), 1, "1000/3");
        Check.promise(33);
        Check.makes("current", x, x.current(0, 0, 1), 1, "1000/3");
        Check.makes("current", x, x.current(0, 1, 1), 0, "0/1");
        x.shortOn(0, 0, 12, 0);
        Check.makes("into", x, x.into(1), 1, "200/1");
        // q is 3 + 8 / 16, p 2 + 4 / 16
        x.shortOn(1, 0, 1, 0);
        Check.makes("into", x, x.into(0), 1, "125/1");
        Check.makes("current", x, x.current(0, 0, 0), 1, "125/1");
        // 2 to a, then 2 beside 2 + 1
        x.set(2, 1, 0, 1);
        x.shortOn(0, 0, 8, 0);
        Check.makes("into", x, x.into(1), 1, "625/2");
        // both ends of the line at one node: two parts of 1 and 3 side by side
        GridHouse y = Check.house("bar a;bar b;switch s a b closed 1;line l a b 4 4 1;machine g a 1 1 0 9 1 1 1 1;");
        y.shortOn(0, 0, 4, 0);
        Check.makes("into", y, y.into(1), 1, "4000/7");
        Check.makes("current", y, y.current(0, 0, 1), 1, "3000/7");
        Check.makes("current", y, y.current(0, 1, 1), 1, "1000/7");
    }

    private static void voids() {
        Check.promise(32);
        GridHouse x = house();
        x.shortOn(0, 1, 8, 0);
        Check.makes("the line is not IN", x, x.into(1), 0, "0/1");
        Check.makes("voltage", x, x.voltage(0, 1), 1, "1000/1");
        x.set(3, 0, 0, 0);
        x.shortOn(0, 0, 8, 0);
        Check.makes("the island is dead", x, x.into(1), 0, "0/1");
        Check.makes("voltage", x, x.voltage(0, 1), 0, "0/1");
        Check.makes("voltage", x, x.voltage(3, 1), 1, "1000/1");
        Check.makes("current", x, x.current(0, 0, 1), 0, "0/1");
        x.shortAt(0, 1, 0);
        Check.makes("the island is dead", x, x.into(1), 0, "0/1");
    }

    private static void grounds() {
        Check.promise(31);
        GridHouse x = house();
        // from c: 5 and 7, and nothing leads the zero net to earth
        x.shortAt(1, 2, 0);
        into(x, "0/1", "0/1", "0/1", new int[] {0, 0, 0});
        Check.makes("voltage", x, x.voltage(2, 1), 1, "1000/1");
        x.shortAt(3, 2, 5);
        into(x, "0/1", "125/3", "125/3", new int[] {0, 1, -1});
        Check.makes("voltage", x, x.voltage(2, 0), 0, "0/1");
        x.shortAt(2, 2, 1);
        into(x, "0/1", "40/1", "40/1", new int[] {0, 1, -1});
        x.shortAt(0, 2, 0);
        Check.makes("into", x, x.into(1), 1, "250/3");
    }

    private static void voltages() {
        Check.promise(32);
        GridHouse x = house();
        Check.makes("no short", x, x.voltage(0, 1), 1, "1000/1");
        Check.makes("no short", x, x.voltage(0, 0), 0, "0/1");
        Check.makes("no short", x, x.voltage(0, 3), 1, "1000000/1");
        Check.makes("no short", x, x.voltage(0, 4), 1, "1000000/1");
        x.shortAt(0, 1, 0);
        Check.makes("at the place", x, x.voltage(1, 1), 0, "0/1");
        Check.makes("at a", x, x.voltage(0, 1), 1, "2000/3");
        Check.makes("another island", x, x.voltage(2, 1), 1, "1000/1");
        Check.makes("phase a", x, x.voltage(0, 3), 1, "4000000/9");
        x.shortAt(3, 1, 0);
        for (int s = 0; s < 3; s++) {
            Check.makes("all alike", x, x.voltage(1, s), 1, "2750/7");
        }
        Check.makes("phase b", x, x.voltage(1, 4), 0, "0/1");
        Check.makes("phase a", x, x.voltage(1, 3), 1, "68062500/49");
        // at a: 3 * 250 / 7; 1000 - 2 * 2125 / 21; 2 * 1375 / 21
        Check.makes("V0", x, x.voltage(0, 0), 1, "750/7");
        Check.makes("V1", x, x.voltage(0, 1), 1, "16750/21");
        Check.makes("V2", x, x.voltage(0, 2), 1, "2750/21");
        Check.refuses("voltage", Check.INDEX, () -> x.voltage(4, 9));
        Check.refuses("voltage", Check.ARGUMENT, () -> x.voltage(0, 5));
        Check.refuses("voltage", Check.ARGUMENT, () -> x.voltage(0, -1));
        x.set(1, 0, 0, 1);
        Check.is("one island now", x.voltage(3, 2), 1);
    }

    private static void currents() {
        Check.promise(33);
        GridHouse x = house();
        Check.makes("no short", x, x.current(0, 0, 1), 0, "0/1");
        x.shortAt(0, 1, 0);
        Check.makes("end 0", x, x.current(0, 0, 1), 1, "500/3");
        Check.makes("end 1", x, x.current(0, 1, 1), -1, "500/3");
        Check.makes("phase a", x, x.current(0, 1, 3), 1, "250000/9");
        Check.makes("phase b", x, x.current(0, 1, 4), 1, "250000/9");
        Check.makes("not IN", x, x.current(1, 0, 1), 0, "0/1");
        x.shortAt(3, 1, 0);
        Check.makes("I0", x, x.current(0, 0, 0), -1, "250/7");
        Check.makes("I1", x, x.current(0, 0, 1), 1, "2125/21");
        Check.makes("I2", x, x.current(0, 0, 2), -1, "1375/21");
        Check.makes("phase a", x, x.current(0, 0, 3), 0, "0/1");
        // (250/7 + 750/42)^2 + 3/4 (3500/21)^2
        Check.makes("phase b", x, x.current(0, 0, 4), 1, "3484375/147");
        Check.refuses("current", Check.INDEX, () -> x.current(3, 9, 9));
        Check.refuses("current", Check.ARGUMENT, () -> x.current(0, 2, 0));
        Check.refuses("current", Check.ARGUMENT, () -> x.current(0, -1, 0));
        Check.refuses("current", Check.ARGUMENT, () -> x.current(0, 0, 5));
        Check.refuses("current", Check.ARGUMENT, () -> x.current(0, 0, -1));
    }

    private static void relays() {
        GridHouse x = house();
        Check.promise(34);
        Check.refuses("relay", Check.INDEX, () -> x.relay(3, 9, 0, 9));
        Check.refuses("relay", Check.INDEX, () -> x.relay(0, 9, 1, 9));
        Check.refuses("relay", Check.INDEX, () -> x.relay(-1, 0, 0, 0));
        Check.refuses("relay", Check.INDEX, () -> x.relay(0, 0, -1, 0));
        Check.refuses("relay", Check.ARGUMENT, () -> x.relay(0, 2, 0, 0));
        Check.refuses("relay", Check.ARGUMENT, () -> x.relay(0, -1, 0, 0));
        Check.refuses("relay", Check.ARGUMENT, () -> x.relay(0, 0, 0, 2));
        for (int i = 0; i < 16; i++) {
            Check.is("relay", x.relay(i % 3, i % 2, 0, i % 2), i);
        }
        Check.refuses("the 17th", Check.STATE, () -> x.relay(0, 0, 0, 0));
        Check.refuses("the 17th", Check.ARGUMENT, () -> x.relay(0, 0, 0, 3));
        Check.is("count", x.count(6), 16);
        Check.promise(35);
        Check.refuses("row", Check.INDEX, () -> x.row(16, -1, -1));
        Check.refuses("row", Check.INDEX, () -> x.row(-1, 0, 0));
        Check.refuses("row", Check.ARGUMENT, () -> x.row(0, -1, 0));
        Check.refuses("row", Check.ARGUMENT, () -> x.row(0, 100000, 0));
        Check.refuses("row", Check.ARGUMENT, () -> x.row(0, 0, -1));
        Check.refuses("row", Check.ARGUMENT, () -> x.row(0, 0, 10000000));
        for (int i = 0; i < 4; i++) {
            Check.is("row", x.row(15, 99999, 9999999), i);
        }
        Check.refuses("the fifth", Check.STATE, () -> x.row(15, 0, 0));
        Check.refuses("the fifth", Check.ARGUMENT, () -> x.row(15, -1, 0));
        Check.is("row", x.row(0, 0, 0), 0);
        Check.promise(36);
        Check.is("fails", x.fails(0, true), false);
        Check.is("fails", x.fails(0, true), true);
        Check.is("fails", x.fails(0, false), true);
        Check.refuses("fails", Check.INDEX, () -> x.fails(1, true));
        Check.refuses("fails", Check.INDEX, () -> x.fails(-1, true));
        Check.promise(37);
        Check.is("backup", x.backup(0), 100000);
        Check.is("backup", x.backup(9999999), 0);
        Check.refuses("backup", Check.ARGUMENT, () -> x.backup(-1));
        Check.refuses("backup", Check.ARGUMENT, () -> x.backup(10000000));
        Check.is("backup", x.backup(1), 9999999);
    }

    private static void mets() {
        Check.promise(38);
        GridHouse x = house();
        x.relay(0, 0, 0, 0);
        x.row(0, 99, 0);
        x.row(0, 100, 0);
        x.row(0, 0, 0);
        x.relay(0, 0, 0, 1);
        x.row(1, 3, 0);
        x.row(1, 4, 0);
        x.relay(0, 1, 0, 1);
        x.row(2, 99999, 0);
        Check.is("no short", x.met(0, 2), false);
        Check.is("no short", x.met(1, 1), false);
        x.shortAt(0, 1, 4);
        Check.is("100 is above 99", x.met(0, 0), true);
        Check.is("100 is not above 100", x.met(0, 1), false);
        x.shortAt(0, 1, 0);
        // at a 2000 / 3 by 500 / 3
        Check.is("4 is above 3", x.met(1, 0), false);
        Check.is("4 is not above 4", x.met(1, 1), true);
        Check.is("it flows out", x.met(2, 0), false);
        Check.refuses("met", Check.INDEX, () -> x.met(3, 0));
        Check.refuses("met", Check.INDEX, () -> x.met(-1, 0));
        Check.refuses("met", Check.INDEX, () -> x.met(0, 3));
        Check.refuses("met", Check.INDEX, () -> x.met(0, -1));
        Check.refuses("met", Check.INDEX, () -> x.met(2, 1));
        // a square of phase b alone above: I a is 0 with kind 3 here
        x.shortAt(3, 1, 0);
        Check.is("phase b", x.met(0, 0), true);
    }

    /** I1 is 0 and I0 is not, for the zero nets of the machines are not alike: kind 1 is not met. */
    private static void noFirst() {
        Check.promise(38);
        GridHouse x = Check.house("bar a;bar b;bar c;switch s a b open 1;line l a b 1 1 1;line m a c 1 1 1;"
                + "line n b c 1 1 1;machine g a 1 1 0 9 1 1 1 1;machine h b 1 5 0 9 1 1 1 1;");
        x.shortAt(1, 2, 0);
        Check.is("I1", x.current(0, 0, 1), 0);
        Check.is("I0", x.current(0, 0, 0), 1);
        x.relay(0, 0, 0, 1);
        x.row(0, 99999, 0);
        x.relay(0, 0, 0, 0);
        x.row(1, 0, 0);
        Check.is("I1 is not above 0", x.met(0, 0), false);
        Check.is("kind 0", x.met(1, 0), true);
    }

    private static GridHouse guarded() {
        GridHouse x = Check.house(PROTECTED);
        x.shortOn(0, 0, 8, 0);
        x.relay(0, 0, 0, 0);
        x.row(0, 1, 5);
        x.relay(0, 1, 1, 0);
        x.row(1, 1, 7);
        return x;
    }

    private static void runs() {
        GridHouse x = guarded();
        Check.promise(39);
        Check.is("begin", x.begin(), 2);
        Check.promise(41);
        Check.is("opened", x.opened(0, 0), -1);
        Check.promise(40);
        Check.is("run", x.run(4), 0);
        Check.is("ordered", x.ordered(0), false);
        Check.is("run", x.run(5), 1);
        Check.promise(42);
        Check.is("ordered", x.ordered(0), true);
        Check.is("ordered", x.ordered(1), false);
        Check.is("ordered", x.ordered(-1), false);
        Check.is("ordered", x.ordered(4), false);
        Check.promise(40);
        Check.is("run", x.run(5), 0);
        Check.refuses("run", Check.ARGUMENT, () -> x.run(4));
        Check.refuses("run", Check.ARGUMENT, () -> x.run(-1));
        Check.is("run", x.run(14), 1);
        Check.is("run", x.run(15), 1);
        Check.is("run", x.run(26), 0);
        Check.is("run", x.run(27), 1);
        Check.is("run", x.run(Integer.MAX_VALUE), 0);
        Check.promise(41);
        Check.is("opened", x.opened(0, 0), 0);
        Check.is("opened", x.opened(0, 1), 15);
        Check.is("opened", x.opened(1, 0), 1);
        Check.is("opened", x.opened(1, 1), 27);
        Check.is("opened", x.opened(2, 0), -1);
        Check.is("opened", x.opened(-1, 0), -1);
        Check.is("opened", x.opened(0, 2), -1);
        Check.is("opened", x.opened(0, -1), -1);
        Check.is("the net stays", x.get(1, 0, 0), 1);
        Check.promise(39);
        Check.is("begin again", x.begin(), 2);
        Check.is("opened", x.opened(0, 0), -1);
        Check.is("ordered", x.ordered(0), false);
        Check.is("run", x.run(1000), 4);
        Check.refuses("no short", Check.STATE, () -> new GridHouse().begin());
    }

    /** A row that is met no more does not trip; met again it waits its delay anew. */
    private static void stopsAndGoes() {
        Check.promise(40);
        GridHouse x = guarded();
        // a slow row for u; once s is open, nothing flows into end 0
        x.relay(0, 0, 2, 0);
        x.row(2, 1, 16);
        Check.is("begin", x.begin(), 3);
        Check.is("run", x.run(100), 4);
        Check.is("not met any more at 16", x.ordered(2), false);
        GridHouse y = guarded();
        y.relay(0, 0, 2, 0);
        y.row(2, 1, 14);
        y.begin();
        Check.is("run", y.run(100), 6);
        Check.is("met at 14", y.ordered(2), true);
        // a row with a zero delay at the time of an opening: the look comes first
        GridHouse z = guarded();
        z.relay(0, 0, 2, 0);
        z.row(2, 1, 15);
        z.begin();
        Check.is("run", z.run(100), 4);
        Check.is("s opens at 15 before the trip", z.ordered(2), false);
        // a second row of one relay gives no order any more
        GridHouse w = guarded();
        w.row(0, 1, 6);
        w.row(0, 1, 5);
        Check.is("begin", w.begin(), 4);
        Check.is("run", w.run(100), 4);
    }

    private static void fails() {
        Check.promise(36);
        GridHouse x = guarded();
        x.fails(0, true);
        x.backup(100);
        x.begin();
        Check.is("two orders, t opens", x.run(114), 3);
        Check.is("ordered", x.ordered(0), true);
        Check.is("ordered", x.ordered(2), false);
        // at 5 + 10 + 100: u is at a's node, v is open
        Check.is("a backup", x.run(115), 1);
        Check.is("ordered", x.ordered(2), true);
        Check.is("ordered", x.ordered(3), false);
        Check.is("run", x.run(144), 0);
        Check.is("run", x.run(145), 1);
        Check.is("opened", x.opened(1, 0), 2);
        Check.is("opened", x.opened(1, 1), 145);
        Check.is("no more", x.run(99999999), 0);
        Check.is("the run has a net of its own", x.get(1, 2, 0), 1);
        Check.promise(37);
        x.backup(0);
        x.begin();
        Check.is("a backup at 15", x.run(15), 3);
        Check.is("ordered", x.ordered(2), true);
        // unknown switches get no order
        x.set(1, 2, 0, 2);
        x.begin();
        Check.is("a backup is an act, whatever it gives", x.run(15), 3);
        Check.is("ordered", x.ordered(2), false);
        x.set(1, 1, 0, 2);
        x.begin();
        Check.is("a trip without an order is no act", x.run(10), 1);
    }

    /** Two switches that open at one time stand in the order of their numbers, and it is looked behind both. */
    private static void orderOfActs() {
        Check.promise(41);
        GridHouse x = Check.house(PROTECTED);
        x.set(1, 0, 1, 20);
        x.shortOn(0, 0, 8, 0);
        x.relay(0, 1, 1, 0);
        x.row(0, 1, 0);
        x.relay(0, 0, 0, 0);
        x.row(1, 1, 0);
        Check.is("begin", x.begin(), 2);
        Check.is("run", x.run(0), 2);
        Check.is("run", x.run(20), 2);
        Check.is("opened", x.opened(0, 0), 0);
        Check.is("opened", x.opened(0, 1), 20);
        Check.is("opened", x.opened(1, 0), 1);
        Check.is("opened", x.opened(1, 1), 20);
    }

    private static void ended(GridHouse x, String what, Pair.Deed call) {
        x.shortOn(0, 0, 8, 0);
        x.begin();
        x.run(3);
        call.go();
        Check.refuses(what + " ends the run", Check.STATE, () -> x.run(4));
        Check.is("opened", x.opened(0, 0), -1);
        Check.is("ordered", x.ordered(0), false);
    }

    private static void endsOfRuns() {
        Check.promise(40);
        GridHouse x = guarded();
        x.keep(0);
        ended(x, "set", () -> x.set(1, 0, 0, 1));
        ended(x, "back", () -> x.back(0));
        ended(x, "shortAt", () -> x.shortAt(0, 0, 0));
        ended(x, "shortOn", () -> x.shortOn(0, 0, 1, 0));
        ended(x, "clearShort", () -> x.clearShort());
        ended(x, "relay", () -> x.relay(0, 0, 0, 0));
        ended(x, "row", () -> x.row(0, 1, 1));
        ended(x, "fails", () -> x.fails(0, false));
        ended(x, "backup", () -> x.backup(5));
        Check.order(x, "earth a;");
        ended(x, "carry", () -> x.carry());
        ended(x, "net", () -> Check.net(x, PROTECTED));
        x.shortAt(0, 0, 0);
        x.begin();
        x.keep(2);
        x.restore(1);
        x.screen();
        x.meter(2, 0, 0, 1);
        Check.rules(x, "no open if lost is 0;");
        Check.order(x, "open s;");
        Check.is("carry", x.carry(), 0);
        Check.find(x, "a");
        Check.net(x, "bar");
        x.voltage(0, 1);
        Check.refuses("a call that throws", Check.INDEX, () -> x.shortAt(0, 9, 0));
        Check.refuses("a call that throws", Check.ARGUMENT, () -> x.backup(-1));
        Check.refuses("a call that throws", Check.ARGUMENT, () -> x.set(1, 0, 0, 9));
        Check.is("the run is still there", x.run(1), 0);
    }
}
