/**
 * Each call that the document refuses: on both sides of each bound, the exception that is named first where two could
 * come, and that a call that throws changes nothing: a twin without that call tells the same of itself.
 */
public final class RefusalTest {
    private static final int LEAST = Integer.MIN_VALUE;
    private static final int MOST = Integer.MAX_VALUE;
    private static final String NET = "bar a;bar b;bar c;bar d;bar e;switch s a b closed 10;switch t d e open 20;"
            + "switch u a d open 30;line l b c 2 6 3;line k c d 1 5 9;machine g a 2 3 1 9 1 4 2 1;"
            + "machine h d 1 2 0 5 3 3 3 0;load p c 4;load q e 7;";

    interface Act {
        void on(GridHouse x);
    }

    private static Told.Maker maker;
    private static String untouched = "";

    private RefusalTest() {
    }

    public static void main(String[] args) {
        on(() -> busy());
        notices();
        questions();
        texts();
        fields();
        flows();
        meters();
        shorts();
        relays();
        orders();
        on(() -> fullTape());
        tooLong();
        on(() -> full());
        tooMany();
        on(() -> Check.house(NET));
        tooEarly();
        on(() -> hopeless());
        noDispatch();
        on(() -> new GridHouse());
        nothingThere();
        Check.close("RefusalTest");
    }

    /** What the calls behind this are refused by. */
    private static void on(Told.Maker next) {
        maker = next;
        untouched = Told.of(next);
    }

    /** What is told behind a call. */
    private static String toldBehind(Act act) {
        return Told.of(() -> {
            GridHouse x = maker.make();
            act.on(x);
            return x;
        });
    }

    private static void tryOn(GridHouse x, Act act) {
        Pair.guarded(() -> {
            act.on(x);
            return 0;
        });
    }

    private static void refuse(String what, String due, Act act) {
        GridHouse x = maker.make();
        Check.refuses(what, due, () -> act.on(x));
        Check.is(what + " leaves all as it was", toldBehind(y -> tryOn(y, act)).equals(untouched), true);
    }

    /** All that an object can hold: meters, a run under way, kept nets, an order, rules, a row found, a number. */
    private static GridHouse busy() {
        GridHouse x = Check.house(NET);
        Check.rules(x, "no tag if lost is 1;no close if tagged it;");
        Check.order(x, "close t;tag s;tag s;");
        x.keep(0);
        x.set(4, 0, 0, 5);
        x.keep(1);
        x.meter(0, 0, 3, 2);
        x.meter(1, 2, -4, 1);
        x.meter(2, 3, 5, 7);
        x.meter(2, 4, 6, 1);
        x.strike(1, true);
        x.shortOn(1, 0, 5, 2);
        x.relay(0, 0, 0, 0);
        x.row(0, 20, 5);
        x.row(0, 10, 40);
        x.relay(1, 0, 2, 1);
        x.row(1, 900, 3);
        x.fails(1, true);
        x.backup(77);
        x.restore(2);
        x.begin();
        x.run(6);
        x.angle(2);
        Check.feed(x, "bar z;bar 7");
        return x;
    }

    private static void change(String what, Act act) {
        Check.is(what + " is seen to change something", toldBehind(act).equals(untouched), false);
    }

    /** That the twin would show it, if a call changed something. */
    private static void notices() {
        change("feed", x -> x.feed(0, 0, 0, 0, 0));
        change("end", x -> x.end(10));
        change("rules", x -> x.rules());
        change("order", x -> Check.order(x, "end"));
        change("set", x -> x.set(1, 0, 0, 1));
        change("keep", x -> x.keep(0));
        change("keep", x -> x.keep(2));
        change("back", x -> x.back(0));
        change("angle", x -> x.angle(1));
        change("meter", x -> x.meter(2, 4, 6, 2));
        change("strike", x -> x.strike(0, true));
        change("shortAt", x -> x.shortAt(0, 0, 0));
        change("clearShort", x -> x.clearShort());
        change("relay", x -> x.relay(0, 0, 0, 0));
        change("row", x -> x.row(0, 0, 0));
        change("fails", x -> x.fails(0, true));
        change("backup", x -> x.backup(78));
        change("begin", x -> x.begin());
        change("run", x -> x.run(7));
        change("carry", x -> x.carry());
        change("restore", x -> x.restore(1));
    }

    private static void ask(String what, Act act) {
        String told = toldBehind(x -> {
            act.on(x);
            x.angle(2);
        });
        Check.is(what + " leaves all but the number in hand", told.equals(untouched), true);
    }

    /** Calls that only ask: the run goes on, and all else stays; the number in hand is made anew as it was. */
    private static void questions() {
        ask("nothing", x -> x.count(0));
        for (int sort = 0; sort <= 15; sort++) {
            int s = sort;
            ask("count " + s, x -> x.count(s));
        }
        ask("name", x -> x.name(0, 0, 0));
        ask("name of none", x -> x.name(9, 9, 9));
        ask("get", x -> x.get(3, 0, 10));
        for (int what = 0; what < 5; what++) {
            int w = what;
            ask("bar " + w, x -> x.bar(4, w));
            ask("voltage " + w, x -> x.voltage(3, w));
            ask("current " + w, x -> x.current(1, 1, w));
        }
        ask("angle", x -> x.angle(3));
        ask("carries", x -> x.carries(0));
        ask("gives", x -> x.gives(1));
        ask("figures", x -> x.figures(1));
        ask("figure", x -> x.figure(0, 0));
        ask("screen", x -> x.screen());
        ask("trouble", x -> x.trouble(0, 3));
        ask("seen", x -> x.seen(4));
        ask("estimate", x -> x.estimate(4));
        ask("rest", x -> x.rest(3, 0));
        ask("spread", x -> x.rest(3, 1));
        ask("worst", x -> x.worst());
        ask("strike as it was", x -> x.strike(1, true));
        ask("keep what was kept", x -> x.keep(1));
        ask("into", x -> x.into(0));
        ask("met", x -> x.met(0, 1));
        ask("opened", x -> x.opened(0, 0));
        ask("ordered", x -> x.ordered(0));
        ask("run to its TIME", x -> x.run(6));
        ask("dispatch", x -> x.dispatch());
        ask("cost", x -> x.cost());
        ask("sets", x -> x.sets(0));
        ask("price", x -> x.price(0));
        ask("barred", x -> x.barred(0));
        ask("barred by", x -> x.barred(1));
        ask("the same restore", x -> x.restore(2));
        ask("step", x -> x.step(0));
        ask("end at its end", x -> x.end(11));
    }

    private static void texts() {
        for (int n : new int[] {-1, 12, LEAST, MOST}) {
            refuse("end " + n, Check.ARGUMENT, x -> x.end(n));
        }
        for (int sort : new int[] {-1, 16, LEAST, MOST}) {
            refuse("count " + sort, Check.ARGUMENT, x -> x.count(sort));
        }
        for (int k : new int[] {-1, 3, LEAST, MOST}) {
            refuse("keep " + k, Check.ARGUMENT, x -> x.keep(k));
            refuse("back " + k, Check.ARGUMENT, x -> x.back(k));
        }
        refuse("back to what was not kept", Check.STATE, x -> x.back(2));
        for (int part : new int[] {-1, 2, LEAST, MOST}) {
            refuse("figures " + part, Check.ARGUMENT, x -> x.figures(part));
            refuse("figure " + part, Check.ARGUMENT, x -> x.figure(part, 0));
            refuse("figure " + part + " that is none", Check.ARGUMENT, x -> x.figure(part, -1));
        }
    }

    private static void fields() {
        int[] count = {5, 3, 2, 2, 2};
        int[] width = {1, 5, 6, 11, 2};
        int[] settable = {0, 2, 4, 10, 1};
        for (int sort : new int[] {-1, 5, 6, LEAST, MOST}) {
            refuse("get of sort " + sort, Check.INDEX, x -> x.get(sort, 0, 0));
            refuse("get of sort " + sort + " and no field", Check.INDEX, x -> x.get(sort, 0, -1));
            refuse("set of sort " + sort, Check.INDEX, x -> x.set(sort, 0, 0, 0));
            refuse("set of sort " + sort + " and no field", Check.INDEX, x -> x.set(sort, 0, 99, 0));
        }
        for (int s = 0; s < 5; s++) {
            int sort = s;
            // 2^32 by the width: an object's place times the width wraps round to a small one
            int wrapped = width[s] == 1 ? MOST : (int) ((1L << 32) / width[s] + 1);
            for (int i : new int[] {-1, count[s], wrapped, LEAST, MOST}) {
                refuse("get of object " + i, Check.INDEX, x -> x.get(sort, i, 0));
                refuse("get of object " + i + " and no field", Check.INDEX, x -> x.get(sort, i, 99));
                refuse("set of object " + i, Check.INDEX, x -> x.set(sort, i, 0, 1));
                refuse("set of object " + i + " and no number", Check.INDEX, x -> x.set(sort, i, 0, -1));
            }
            for (int f : new int[] {-1, width[s], LEAST, MOST}) {
                refuse("get " + s + " field " + f, Check.ARGUMENT, x -> x.get(sort, 0, f));
            }
            for (int f : new int[] {-1, settable[s], width[s], LEAST, MOST}) {
                refuse("set " + s + " field " + f, Check.ARGUMENT, x -> x.set(sort, 0, f, 1));
            }
        }
        // field, least, greatest; of the machine g LO is 1, HI 9, C 1, D 2
        number(1, new int[][] {{0, 0, 2}, {1, 1, 999999}});
        number(2, new int[][] {{0, 0, 1}, {1, 1, 99}, {2, 1, 299}, {3, 0, 9999}});
        number(3, new int[][] {{0, 0, 1}, {1, 0, 9999}, {2, 1, 99}, {3, 0, 299}, {4, 0, 9}, {5, 1, 9999}, {6, 0, 2},
            {7, 0, 9999}, {8, 1, 999}, {9, 0, 9}});
        number(4, new int[][] {{0, 0, 9999}});
    }

    private static void number(int sort, int[][] bounds) {
        for (int[] b : bounds) {
            for (int v : new int[] {b[1] - 1, b[2] + 1, LEAST, MOST}) {
                refuse("set " + sort + " 0 " + b[0] + " " + v, Check.ARGUMENT, x -> x.set(sort, 0, b[0], v));
            }
        }
    }

    private static void flows() {
        for (int bar : new int[] {-1, 5, LEAST, MOST}) {
            refuse("bar " + bar, Check.INDEX, x -> x.bar(bar, 0));
            refuse("bar " + bar + " what", Check.INDEX, x -> x.bar(bar, 5));
            refuse("angle " + bar, Check.INDEX, x -> x.angle(bar));
        }
        for (int what : new int[] {-1, 5, LEAST, MOST}) {
            refuse("bar 4 " + what, Check.ARGUMENT, x -> x.bar(4, what));
        }
        for (int i : new int[] {-1, 2, LEAST, MOST}) {
            refuse("carries " + i, Check.INDEX, x -> x.carries(i));
            refuse("gives " + i, Check.INDEX, x -> x.gives(i));
        }
        int troubles = maker.make().screen();
        Check.is("lines that make trouble", troubles, 1);
        for (int k : new int[] {-1, 1, 1 << 30, LEAST, MOST}) {
            refuse("trouble " + k, Check.INDEX, x -> x.trouble(k, 0));
            refuse("trouble " + k + " what", Check.INDEX, x -> x.trouble(k, 4));
        }
        for (int what : new int[] {-1, 4, LEAST, MOST}) {
            refuse("trouble 0 " + what, Check.ARGUMENT, x -> x.trouble(0, what));
        }
    }

    private static void meters() {
        for (int kind : new int[] {-1, 3, LEAST, MOST}) {
            refuse("meter of kind " + kind, Check.ARGUMENT, x -> x.meter(kind, 0, 0, 1));
            refuse("meter of kind " + kind + " nowhere", Check.ARGUMENT, x -> x.meter(kind, -1, 0, 1));
        }
        for (int at : new int[] {-1, 2, LEAST, MOST}) {
            refuse("meter at line " + at, Check.INDEX, x -> x.meter(0, at, 0, 1));
            refuse("meter at line " + at + " with v", Check.INDEX, x -> x.meter(0, at, 100000, 1));
        }
        for (int at : new int[] {-1, 5, LEAST, MOST}) {
            refuse("meter at bar " + at, Check.INDEX, x -> x.meter(1, at, 0, 1));
            refuse("meter at bar " + at + " with w", Check.INDEX, x -> x.meter(2, at, 0, 0));
        }
        for (int v : new int[] {-100000, 100000, LEAST, MOST}) {
            refuse("meter with v " + v, Check.ARGUMENT, x -> x.meter(2, 4, v, 1));
        }
        for (int w : new int[] {-1, 0, 100, LEAST, MOST}) {
            refuse("meter with w " + w, Check.ARGUMENT, x -> x.meter(0, 1, 0, w));
        }
        for (int m : new int[] {-1, 4, LEAST, MOST}) {
            refuse("strike " + m, Check.INDEX, x -> x.strike(m, true));
            refuse("rest " + m, Check.INDEX, x -> x.rest(m, 0));
            refuse("rest " + m + " what", Check.INDEX, x -> x.rest(m, 2));
        }
        for (int what : new int[] {-1, 2, LEAST, MOST}) {
            refuse("rest of a whole island's meter " + what, Check.ARGUMENT, x -> x.rest(3, what));
            refuse("rest of a struck meter " + what, Check.ARGUMENT, x -> x.rest(1, what));
        }
        refuse("the spread of a struck meter", Check.STATE, x -> x.rest(1, 1));
        for (int bar : new int[] {-1, 5, LEAST, MOST}) {
            refuse("seen " + bar, Check.INDEX, x -> x.seen(bar));
            refuse("estimate " + bar, Check.INDEX, x -> x.estimate(bar));
        }
    }

    private static void shorts() {
        for (int i : new int[] {-1, 5, LEAST, MOST}) {
            refuse("shortAt bar " + i, Check.INDEX, x -> x.shortAt(0, i, 0));
            refuse("shortAt bar " + i + " of no kind", Check.INDEX, x -> x.shortAt(4, i, 100));
            refuse("voltage of bar " + i, Check.INDEX, x -> x.voltage(i, 0));
            refuse("voltage of bar " + i + " what", Check.INDEX, x -> x.voltage(i, 5));
        }
        for (int i : new int[] {-1, 2, LEAST, MOST}) {
            refuse("shortOn line " + i, Check.INDEX, x -> x.shortOn(0, i, 1, 0));
            refuse("shortOn line " + i + " at none", Check.INDEX, x -> x.shortOn(4, i, 16, 100));
            refuse("current of line " + i, Check.INDEX, x -> x.current(i, 0, 0));
            refuse("current of line " + i + " at none", Check.INDEX, x -> x.current(i, 2, 5));
        }
        for (int kind : new int[] {-1, 4, LEAST, MOST}) {
            refuse("shortAt of kind " + kind, Check.ARGUMENT, x -> x.shortAt(kind, 0, 0));
            refuse("shortOn of kind " + kind, Check.ARGUMENT, x -> x.shortOn(kind, 0, 1, 0));
        }
        for (int k : new int[] {-1, 0, 16, LEAST, MOST}) {
            refuse("shortOn at " + k, Check.ARGUMENT, x -> x.shortOn(0, 1, k, 0));
        }
        for (int z : new int[] {-1, 100, LEAST, MOST}) {
            refuse("shortAt with z " + z, Check.ARGUMENT, x -> x.shortAt(3, 4, z));
            refuse("shortOn with z " + z, Check.ARGUMENT, x -> x.shortOn(3, 1, 15, z));
        }
        for (int s : new int[] {-1, 3, LEAST, MOST}) {
            refuse("into " + s, Check.ARGUMENT, x -> x.into(s));
        }
        for (int s : new int[] {-1, 5, LEAST, MOST}) {
            refuse("voltage " + s, Check.ARGUMENT, x -> x.voltage(4, s));
            refuse("current " + s, Check.ARGUMENT, x -> x.current(1, 1, s));
        }
        for (int end : new int[] {-1, 2, LEAST, MOST}) {
            refuse("current at end " + end, Check.ARGUMENT, x -> x.current(0, end, 0));
        }
    }

    private static void relays() {
        for (int i : new int[] {-1, 2, LEAST, MOST}) {
            refuse("relay of line " + i, Check.INDEX, x -> x.relay(i, 0, 0, 0));
            refuse("relay of line " + i + " at none", Check.INDEX, x -> x.relay(i, 2, 0, 2));
            refuse("row of relay " + i, Check.INDEX, x -> x.row(i, 0, 0));
            refuse("row of relay " + i + " with a setting", Check.INDEX, x -> x.row(i, -1, -1));
            refuse("met of relay " + i, Check.INDEX, x -> x.met(i, 0));
        }
        for (int sw : new int[] {-1, 3, LEAST, MOST}) {
            refuse("relay for switch " + sw, Check.INDEX, x -> x.relay(1, 1, sw, 1));
            refuse("relay for switch " + sw + " of no kind", Check.INDEX, x -> x.relay(1, 1, sw, 2));
            refuse("fails " + sw, Check.INDEX, x -> x.fails(sw, true));
        }
        for (int v : new int[] {-1, 2, LEAST, MOST}) {
            refuse("relay at end " + v, Check.ARGUMENT, x -> x.relay(0, v, 0, 0));
            refuse("relay of kind " + v, Check.ARGUMENT, x -> x.relay(0, 0, 0, v));
            refuse("met row " + v, Check.INDEX, x -> x.met(0, v));
        }
        for (int setting : new int[] {-1, 100000, LEAST, MOST}) {
            refuse("row with a setting " + setting, Check.ARGUMENT, x -> x.row(0, setting, 0));
        }
        for (int time : new int[] {-1, 10000000, LEAST, MOST}) {
            refuse("row with a delay " + time, Check.ARGUMENT, x -> x.row(0, 0, time));
            refuse("backup " + time, Check.ARGUMENT, x -> x.backup(time));
        }
        refuse("a row of the other relay", Check.INDEX, x -> x.met(1, 1));
        for (int time : new int[] {5, 0, -1, LEAST}) {
            refuse("run back to " + time, Check.ARGUMENT, x -> x.run(time));
        }
    }

    private static void orders() {
        for (int what : new int[] {-1, 2, LEAST, MOST}) {
            refuse("barred " + what, Check.ARGUMENT, x -> x.barred(what));
        }
        for (int n : new int[] {-1, 0, 4, LEAST, MOST}) {
            refuse("restore " + n, Check.ARGUMENT, x -> x.restore(n));
        }
        for (int bar : new int[] {-1, 5, LEAST, MOST}) {
            refuse("price " + bar, Check.INDEX, x -> x.price(bar));
        }
        for (int m : new int[] {-1, 2, LEAST, MOST}) {
            refuse("sets " + m, Check.INDEX, x -> x.sets(m));
        }
        refuse("price in a dead island", Check.STATE, x -> x.price(4));
    }

    private static GridHouse fullTape() {
        GridHouse x = Check.house("bar a;load p a 1;");
        for (int i = 0; i < 200; i++) {
            x.feed(0x62617220 + i, 2, 3, 4, 5);
        }
        return x;
    }

    private static void tooLong() {
        refuse("feed to 4020", Check.STATE, x -> x.feed(0, 0, 0, 0, 0));
        refuse("end at 4001", Check.ARGUMENT, x -> x.end(4001));
    }

    /** As many meters, relays and rows as there can be. */
    private static GridHouse full() {
        GridHouse x = busy();
        while (x.count(5) < 32) {
            x.meter(2, 4, 1, 1);
        }
        while (x.count(6) < 16) {
            x.relay(1, 1, 1, 0);
        }
        x.row(0, 3, 3);
        x.row(0, 2, 2);
        x.begin();
        x.run(4);
        return x;
    }

    private static void tooMany() {
        refuse("the 33rd meter", Check.STATE, x -> x.meter(0, 0, 0, 1));
        refuse("the 33rd meter, v", Check.ARGUMENT, x -> x.meter(0, 0, 100000, 1));
        refuse("the 33rd meter, w", Check.ARGUMENT, x -> x.meter(0, 0, 0, 0));
        refuse("the 33rd meter, nowhere", Check.INDEX, x -> x.meter(0, 2, 0, 1));
        refuse("the 33rd meter, of no kind", Check.ARGUMENT, x -> x.meter(3, 2, 0, 1));
        refuse("strike 32", Check.INDEX, x -> x.strike(32, true));
        refuse("rest 32", Check.INDEX, x -> x.rest(32, 0));
        refuse("the 17th relay", Check.STATE, x -> x.relay(0, 0, 0, 0));
        refuse("the 17th relay, at no end", Check.ARGUMENT, x -> x.relay(0, 2, 0, 0));
        refuse("the 17th relay, of no kind", Check.ARGUMENT, x -> x.relay(0, 0, 0, -1));
        refuse("the 17th relay, of no line", Check.INDEX, x -> x.relay(2, 0, 0, 0));
        refuse("the 17th relay, for no switch", Check.INDEX, x -> x.relay(0, 0, 3, 0));
        refuse("a row of the 17th relay", Check.INDEX, x -> x.row(16, 0, 0));
        refuse("met of the 17th relay", Check.INDEX, x -> x.met(16, 0));
        refuse("the fifth row", Check.STATE, x -> x.row(0, 0, 0));
        refuse("the fifth row, setting", Check.ARGUMENT, x -> x.row(0, 100000, 0));
        refuse("the fifth row, delay", Check.ARGUMENT, x -> x.row(0, 0, -1));
        refuse("met of the fifth row", Check.INDEX, x -> x.met(0, 4));
    }

    /** A net without a short, a run, meters, or anything kept. */
    private static void tooEarly() {
        refuse("begin", Check.STATE, x -> x.begin());
        for (int time : new int[] {0, -1, 1, LEAST, MOST}) {
            refuse("run", Check.STATE, x -> x.run(time));
        }
        for (int k = 0; k < 3; k++) {
            int i = k;
            refuse("back", Check.STATE, x -> x.back(i));
        }
        refuse("estimate", Check.STATE, x -> x.estimate(0));
        refuse("estimate", Check.STATE, x -> x.estimate(3));
        refuse("estimate", Check.INDEX, x -> x.estimate(5));
        refuse("rest", Check.INDEX, x -> x.rest(0, 0));
        refuse("strike", Check.INDEX, x -> x.strike(0, true));
        refuse("row", Check.INDEX, x -> x.row(0, 0, 0));
        refuse("met", Check.INDEX, x -> x.met(0, 0));
        refuse("end", Check.ARGUMENT, x -> x.end(1));
    }

    /** A net whose loads are more than its machines can give, with meters in an island that is not whole. */
    private static GridHouse hopeless() {
        GridHouse x = Check.house(NET);
        x.set(4, 0, 0, 9999);
        x.meter(2, 3, 1, 1);
        x.meter(0, 0, 1, 1);
        x.strike(0, true);
        x.carries(0);
        return x;
    }

    private static void noDispatch() {
        refuse("cost", Check.STATE, x -> x.cost());
        refuse("sets", Check.STATE, x -> x.sets(0));
        refuse("sets", Check.INDEX, x -> x.sets(2));
        refuse("price", Check.STATE, x -> x.price(0));
        refuse("price", Check.STATE, x -> x.price(4));
        refuse("price", Check.INDEX, x -> x.price(5));
        refuse("rest", Check.STATE, x -> x.rest(1, 0));
        refuse("rest", Check.STATE, x -> x.rest(1, 1));
        refuse("rest", Check.ARGUMENT, x -> x.rest(1, 2));
        refuse("rest of a struck one", Check.STATE, x -> x.rest(0, 0));
        refuse("rest of a struck one", Check.STATE, x -> x.rest(0, 1));
        refuse("estimate", Check.STATE, x -> x.estimate(2));
    }

    /** A new object: every first object is one that is not there. */
    private static void nothingThere() {
        for (int sort = 0; sort < 5; sort++) {
            int s = sort;
            refuse("get", Check.INDEX, x -> x.get(s, 0, 0));
            refuse("set", Check.INDEX, x -> x.set(s, 0, 0, 0));
        }
        refuse("end", Check.ARGUMENT, x -> x.end(1));
        refuse("bar", Check.INDEX, x -> x.bar(0, 0));
        refuse("angle", Check.INDEX, x -> x.angle(0));
        refuse("carries", Check.INDEX, x -> x.carries(0));
        refuse("gives", Check.INDEX, x -> x.gives(0));
        refuse("trouble", Check.INDEX, x -> x.trouble(0, 0));
        refuse("meter", Check.INDEX, x -> x.meter(0, 0, 0, 1));
        refuse("meter", Check.INDEX, x -> x.meter(1, 0, 0, 1));
        refuse("meter", Check.INDEX, x -> x.meter(2, 0, 0, 1));
        refuse("seen", Check.INDEX, x -> x.seen(0));
        refuse("estimate", Check.INDEX, x -> x.estimate(0));
        refuse("shortAt", Check.INDEX, x -> x.shortAt(0, 0, 0));
        refuse("shortOn", Check.INDEX, x -> x.shortOn(0, 0, 1, 0));
        refuse("voltage", Check.INDEX, x -> x.voltage(0, 0));
        refuse("current", Check.INDEX, x -> x.current(0, 0, 0));
        refuse("relay", Check.INDEX, x -> x.relay(0, 0, 0, 0));
        refuse("fails", Check.INDEX, x -> x.fails(0, true));
        refuse("begin", Check.STATE, x -> x.begin());
        refuse("run", Check.STATE, x -> x.run(0));
        refuse("sets", Check.INDEX, x -> x.sets(0));
        refuse("price", Check.INDEX, x -> x.price(0));
        refuse("back", Check.STATE, x -> x.back(0));
    }
}
