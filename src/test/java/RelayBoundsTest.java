/** Each boundary that the document names for relays and the run: section 5, promises 34 to 42. */
public final class RelayBoundsTest {
    /** From b the positive net is 6 away from earth; l carries 100 with z 4. */
    private static final String NET = "bar a;bar b;switch s a b open 9;line l a b 4 8 1;machine g a 2 3 0 9 1 1 1 1;";
    /** l carries 250, 500/3 without h behind s, and 250 again without k behind u. */
    private static final String AGAIN = "bar a;bar c;bar d;bar e;bar f;switch s e a closed 10;switch u a d closed 20;"
            + "switch w c f closed 3;line l a c 2 2 1;line k d c 2 2 1;machine g a 2 2 0 9 1 1 1 1;"
            + "machine h e 2 2 0 9 1 1 1 1;";
    /** A row of switches from the machine to the line, v on a side way. */
    private static final String CHAIN = "bar a;bar b;bar c;bar d;bar e;bar f;switch s a b closed 10;"
            + "switch t b c closed 5;"
            + "switch u c d closed 7;switch v e c closed 8;line l d f 2 2 1;machine g a 2 2 0 9 1 1 1 1;";

    private RelayBoundsTest() {
    }

    public static void main(String[] args) {
        tables();
        above();
        notAbove();
        alikeSquares();
        begins();
        times();
        again();
        backups();
        backupFirst();
        asTheyAreThen();
        failedTwice();
        unknowns();
        latest();
        manyOpened();
        noRun();
        secondLine();
        unknownInRun();
        newNets();
        greaterPhase();
        together();
        staysClosed();
        changes();
        onlyAsks();
        Check.close("RelayBoundsTest");
    }

    private static void tables() {
        Check.sentence("RELAYS (16), with ROWS (4 at most)");
        GridHouse x = Check.house(NET);
        x.shortAt(0, 1, 4);
        for (int r = 0; r < 16; r++) {
            Check.is("relay", x.relay(0, 0, 0, 0), r);
            for (int row = 0; row < 4; row++) {
                Check.is("row", x.row(r, row == 3 && r == 15 ? 100 : 99, r), row);
            }
            int full = r;
            Check.refuses("the fifth row", Check.STATE, () -> x.row(full, 0, 0));
            Check.refuses("a row of the next relay", Check.INDEX, () -> x.row(full + 1, 0, 0));
            Check.is("met", x.met(r, 0), true);
            Check.refuses("met", Check.INDEX, () -> x.met(full, 4));
            Check.refuses("met", Check.INDEX, () -> x.met(full + 1, 0));
        }
        Check.refuses("the 17th", Check.STATE, () -> x.relay(0, 0, 0, 0));
        Check.is("count", x.count(6), 16);
        Check.is("the last row", x.met(15, 3), false);
        Check.sentence("Promise 39: how many ROWS are MET");
        Check.is("all but one", x.begin(), 63);
        Check.sentence("Promises 34, 35: the last that is taken");
        GridHouse y = Check.house(NET);
        Check.is("relay", y.relay(0, 1, 0, 1), 0);
        Check.is("row", y.row(0, 0, 0), 0);
        Check.is("row", y.row(0, 99999, 9999999), 1);
        Check.refuses("setting", Check.ARGUMENT, () -> y.row(0, 100000, 0));
        Check.refuses("delay", Check.ARGUMENT, () -> y.row(0, 0, 10000000));
        Check.is("row", y.row(0, 1, 1), 2);
        Check.sentence("Promise 37: it is not 0 .. 9999999");
        Check.is("backup", y.backup(9999999), 100000);
        Check.refuses("backup", Check.ARGUMENT, () -> y.backup(10000000));
        Check.is("backup", y.backup(0), 9999999);
        Check.refuses("backup", Check.ARGUMENT, () -> y.backup(-1));
        Check.is("backup", y.backup(5), 0);
        Check.sentence("Promise 36: a switch FAILS, or not: whether it did");
        Check.is("fails", y.fails(0, false), false);
        Check.is("fails", y.fails(0, true), false);
        Check.is("fails", y.fails(0, false), true);
        Check.is("fails", y.fails(0, false), false);
        Check.refuses("fails", Check.INDEX, () -> y.fails(1, true));
    }

    private static void above() {
        Check.sentence("kind 0: if the square of phase a or b is above SETTING^2");
        GridHouse x = Check.house(NET);
        // 46341^2 and 65536^2 wrap round in 32 bits, to a number below 0 and to 0
        int[] settings = {0, 99, 100, 101, 46340, 46341, 65535, 65536, 65537, 92682, 99999};
        for (int i = 0; i < settings.length; i++) {
            if (i % 4 == 0) {
                x.relay(0, 0, 0, 0);
            }
            x.row(i / 4, settings[i], 0);
        }
        x.shortAt(0, 1, 4);
        for (int i = 0; i < settings.length; i++) {
            Check.is("100 against " + settings[i], x.met(i / 4, i % 4), settings[i] < 100);
        }
        x.shortAt(0, 0, 0);
        Check.is("0 is not above 0", x.met(0, 0), false);
        x.clearShort();
        Check.is("0 is not above 0", x.met(0, 0), false);
        x.shortAt(2, 1, 0);
        Check.is("phase b alone, 144 and something", x.met(0, 3), true);
        x.shortAt(3, 1, 0);
        Check.is("phase b alone, 153 and something", x.met(0, 3), true);
        x.shortAt(1, 1, 0);
        // three times 1000/23 is 130 and something, phase b 0
        Check.is("phase a alone", x.met(0, 3), true);
        GridHouse y = Check.house(NET);
        y.relay(0, 1, 0, 0);
        y.row(0, 99, 0);
        y.shortAt(0, 1, 4);
        Check.is("it matters not which way it flows", y.met(0, 0), true);
        y.set(2, 0, 0, 0);
        Check.is("not IN", y.met(0, 0), false);
    }

    private static void notAbove() {
        Check.sentence("Kind 1: if I1 and u are above 0, and v is not above SETTING^2 u");
        GridHouse x = Check.house(NET);
        // at a 800, and 100 flow
        int[] settings = {0, 7, 8, 9, 46340, 46341, 65535, 65536, 65537, 92682, 99999};
        for (int i = 0; i < settings.length; i++) {
            if (i % 4 == 0) {
                x.relay(0, 0, 0, 1);
            }
            x.row(i / 4, settings[i], 0);
        }
        x.relay(0, 1, 0, 1);
        x.row(3, 99999, 0);
        x.shortAt(0, 1, 4);
        for (int i = 0; i < settings.length; i++) {
            Check.is("8 against " + settings[i], x.met(i / 4, i % 4), settings[i] >= 8);
        }
        Check.is("I1 is below 0 at the other end", x.met(3, 0), false);
        x.shortAt(0, 0, 0);
        Check.is("I1 is 0: nothing flows, and v is 0", x.met(2, 2), false);
        x.clearShort();
        Check.is("no SHORT", x.met(2, 2), false);
        x.shortOn(0, 0, 1, 0);
        Check.is("1/4 to the PLACE: not above 1", x.met(0, 1), true);
        Check.is("above 0", x.met(0, 0), false);
        x.set(3, 0, 0, 0);
        Check.is("VOID", x.met(2, 2), false);
    }

    private static void alikeSquares() {
        Check.sentence("of alike ones a's");
        GridHouse x = Check.house("bar a;bar b;bar c;switch s a b open 1;line l a b 1 6 1;line m a c 1 6 1;"
                + "line n b c 1 1 1;"
                + "machine g a 2 0 0 9 1 1 1 1;machine h b 6 1 0 9 1 1 1 1;");
        x.shortAt(1, 2, 0);
        // I1 and I2 are 1000/39, I0 - 500/39; at a V1, V2 and V0 are 1000 less 9500/39, and - 9500/39
        Check.makes("phase a of l", x, x.current(0, 0, 3), 1, "250000/169");
        Check.makes("phase b of l", x, x.current(0, 0, 4), 1, "250000/169");
        Check.makes("phase a at a: 49 times that", x, x.voltage(0, 3), 1, "12250000/169");
        Check.makes("phase b at a: 676 times that", x, x.voltage(0, 4), 1, "1000000/1");
        x.relay(0, 0, 0, 1);
        for (int setting : new int[] {6, 7, 25, 26}) {
            x.row(0, setting, 0);
        }
        for (int row = 0; row < 4; row++) {
            Check.is("row " + row, x.met(0, row), row > 0);
        }
    }

    private static GridHouse again(int delay) {
        GridHouse x = Check.house(AGAIN);
        x.shortAt(0, 1, 0);
        x.relay(0, 0, 0, 0);
        x.row(0, 0, 0);
        x.relay(0, 0, 1, 0);
        x.row(1, 0, 5);
        x.relay(0, 0, 2, 0);
        x.row(2, 200, delay);
        return x;
    }

    private static void begins() {
        Check.sentence("Promise 39: a RUN begins (in place of one there was)");
        GridHouse x = again(12);
        Check.is("begin", x.begin(), 3);
        Check.is("no act before run()", x.ordered(0), false);
        Check.is("run", x.run(100), 6);
        Check.is("opened", x.opened(0, 0), 0);
        Check.is("begin", x.begin(), 3);
        Check.is("opened", x.opened(0, 0), -1);
        Check.is("ordered", x.ordered(0), false);
        Check.is("the TIME is 0 again", x.run(0), 1);
        Check.sentence("Promise 38: MET by the net (not by the RUN)");
        x.run(12);
        Check.is("500/3 in the RUN, 250 in the net", x.met(2, 0), true);
        Check.is("the net stays", x.get(1, 0, 0), 1);
        Check.sentence("Promise 39: there is no SHORT");
        x.clearShort();
        Check.refuses("begin", Check.STATE, () -> x.begin());
        x.shortOn(0, 1, 8, 0);
        x.set(2, 1, 0, 0);
        Check.is("a VOID one is enough", x.begin(), 0);
        Check.is("nothing happens", x.run(Integer.MAX_VALUE), 0);
    }

    private static void times() {
        Check.sentence("Promise 40: all ACTS up to a TIME, which is the RUN's then; time is below the RUN's");
        GridHouse x = again(12);
        x.begin();
        int[][] due = {{0, 1}, {0, 0}, {4, 0}, {5, 1}, {9, 0}, {10, 1}, {24, 0}, {25, 1}, {36, 0}, {37, 1}, {39, 0},
            {40, 1}, {40, 0}, {41, 0}, {Integer.MAX_VALUE, 0}, {Integer.MAX_VALUE, 0}};
        for (int[] d : due) {
            Check.is("run " + d[0], x.run(d[0]), d[1]);
            Check.refuses("run back", Check.ARGUMENT, () -> x.run(d[0] - 1));
            if (d[0] < Integer.MAX_VALUE) {
                Check.is("its TIME again", x.run(d[0]), 0);
            }
        }
        int[][] opened = {{0, 10}, {1, 25}, {2, 40}, {-1, -1}};
        for (int k = 0; k < 4; k++) {
            Check.is("opened", x.opened(k, 0), opened[k][0]);
            Check.is("opened at", x.opened(k, 1), opened[k][1]);
        }
        Check.refuses("run below 0", Check.ARGUMENT, () -> x.run(-1));
        GridHouse y = again(12);
        y.begin();
        Check.refuses("run below 0", Check.ARGUMENT, () -> y.run(-1));
        Check.is("all at once", y.run(40), 6);
    }

    /** When the switch w gets its ORDER, by the delay of its row. */
    private static void again() {
        Check.sentence("each ROW that is MET and was not is MET SINCE then;"
                + " one that is not MET any more is so no more");
        int[][] due = {{0, 0}, {1, 1}, {9, 9}, {10, 35}, {11, 36}, {12, 37}, {15, 40}, {25, 50}, {26, 51},
            {9999999, 10000024}};
        for (int[] d : due) {
            GridHouse x = again(d[0]);
            x.begin();
            if (d[1] > 0) {
                x.run(d[1] - 1);
                Check.is("delay " + d[0] + ": not before", x.ordered(2), false);
            }
            x.run(d[1]);
            Check.is("delay " + d[0] + ": at s and its DELAY", x.ordered(2), true);
            x.run(Integer.MAX_VALUE);
            int k = d[1] + 3 < 10 ? 0 : d[1] + 3 < 25 ? 1 : 2;
            Check.is("it opens TIME of it later", x.opened(k, 0), 2);
            Check.is("it opens TIME of it later", x.opened(k, 1), d[1] + 3);
        }
        Check.sentence("A trip that gives no ORDER is no ACT; once for each SINCE");
        // a second relay for s with a row that is met, met no more, and met again
        GridHouse x = again(50);
        x.relay(0, 0, 0, 0);
        x.row(3, 200, 2);
        Check.is("begin", x.begin(), 4);
        Check.is("run", x.run(70), 4);
    }

    private static GridHouse chain() {
        GridHouse x = Check.house(CHAIN);
        x.shortAt(0, 5, 0);
        x.relay(0, 0, 0, 0);
        x.row(0, 0, 0);
        x.fails(0, true);
        x.backup(50);
        return x;
    }

    private static void backups() {
        Check.sentence("its TIME and BACK later (BACK is 100000 at first) comes the BACKUP");
        for (int back : new int[] {100000, 0, 1, 50, 9999999}) {
            GridHouse x = chain();
            Check.is("backup", x.backup(100000), 50);
            if (back != 100000) {
                x.backup(back);
            }
            x.begin();
            Check.is("the ORDER", x.run(0), 1);
            Check.is("not before", x.run(10 + back - 1), 0);
            Check.is("ordered", x.ordered(1) || x.ordered(2) || x.ordered(3), false);
            Check.sentence("A BACKUP is one ACT, whatever it gives");
            Check.is("with BACK " + back, x.run(10 + back), 1);
            Check.is("ordered", x.ordered(1) && x.ordered(2) && x.ordered(3), true);
            Check.is("three open", x.run(Integer.MAX_VALUE), 3);
            Check.is("it does not open", x.opened(3, 0), -1);
            int[] order = {1, 2, 3};
            int[] time = {5, 7, 8};
            for (int k = 0; k < 3; k++) {
                Check.is("opened", x.opened(k, 0), order[k]);
                Check.is("opened at", x.opened(k, 1), 10 + back + time[k]);
            }
        }
        GridHouse y = Check.house(CHAIN);
        y.shortAt(0, 5, 0);
        y.relay(0, 0, 0, 0);
        y.row(0, 0, 0);
        y.fails(0, true);
        y.begin();
        Check.is("BACK is 100000 at first", y.run(100009), 1);
        Check.is("BACK is 100000 at first", y.run(100010), 1);
    }

    private static void backupFirst() {
        Check.sentence("at one TIME in this order: first all openings; then BACKUPS; then TRIPS");
        // u's trip and the BACKUP at 60
        GridHouse x = chain();
        x.relay(0, 0, 2, 0);
        x.row(1, 0, 60);
        x.begin();
        Check.is("run", x.run(59), 1);
        Check.is("the BACKUP gives u its ORDER", x.run(60), 1);
        Check.is("ordered", x.ordered(2), true);
        // one sooner the trip is an ACT, too
        GridHouse y = chain();
        y.relay(0, 0, 2, 0);
        y.row(1, 0, 59);
        y.begin();
        Check.is("run", y.run(58), 1);
        Check.is("the trip", y.run(59), 1);
        Check.is("the BACKUP", y.run(60), 1);
        Check.is("u, t, v", y.run(1000), 3);
        Check.is("opened", y.opened(0, 0), 1);
        Check.is("opened at", y.opened(0, 1), 65);
        Check.is("opened", y.opened(1, 0), 2);
        Check.is("opened at", y.opened(1, 1), 66);
    }

    private static void asTheyAreThen() {
        Check.sentence("that have an end at a bar in one of the nodes of its ends (as they are then)");
        // t opens 5 behind its trip: at 59, 60 (ahead of the BACKUP) and 61
        for (int opens = 59; opens <= 61; opens++) {
            GridHouse x = chain();
            x.relay(0, 0, 1, 0);
            x.row(1, 0, opens - 5);
            x.begin();
            x.run(opens - 5);
            Check.is("both ORDERS", x.ordered(0) && x.ordered(1), true);
            x.run(60);
            Check.is("u with t open at " + opens, x.ordered(2), opens > 60);
            Check.is("v with t open at " + opens, x.ordered(3), opens > 60);
        }
        // an open switch parts the nodes, one end is enough, and so is end 1
        GridHouse y = Check.house("bar a;bar b;bar c;bar d;bar e;bar f;switch s a b closed 10;switch t c b open 5;"
                + "switch u d a closed 7;switch v c e closed 8;switch w e c open 1;line l b f 2 2 1;"
                + "machine g a 2 2 0 9 1 1 1 1;");
        y.shortAt(0, 5, 0);
        y.relay(0, 0, 0, 0);
        y.row(0, 0, 0);
        y.fails(0, true);
        y.backup(0);
        y.begin();
        Check.is("the ORDER and the BACKUP", y.run(10), 2);
        Check.is("its STATE is 0", y.ordered(1), false);
        Check.is("end 1 is at a", y.ordered(2), true);
        Check.is("behind an open switch", y.ordered(3), false);
        Check.is("behind an open switch", y.ordered(4), false);
    }

    private static void failedTwice() {
        Check.sentence("if it FAILS, it does not open, and its TIME and BACK later comes the BACKUP");
        GridHouse x = chain();
        x.fails(1, true);
        x.begin();
        Check.is("the BACKUP of s", x.run(60), 2);
        Check.is("u and v", x.run(114), 2);
        Check.is("the BACKUP of t, which gives nothing", x.run(115), 1);
        Check.is("no more", x.run(Integer.MAX_VALUE), 0);
        Check.is("t does not open", x.opened(2, 0), -1);
        Check.is("t was ordered", x.ordered(1), true);
        GridHouse y = chain();
        y.fails(0, false);
        y.begin();
        Check.is("it FAILS no more", y.run(10), 2);
        Check.is("opened", y.opened(0, 1), 10);
    }

    private static void unknowns() {
        Check.sentence("A switch gets an ORDER just if its STATE is 1 and it never got one");
        for (int state = 0; state <= 2; state++) {
            GridHouse x = chain();
            x.set(1, 3, 0, state);
            x.relay(0, 0, 3, 0);
            x.row(1, 0, 3);
            x.begin();
            Check.is("the trip of v, STATE " + state, x.run(3), state == 1 ? 2 : 1);
            Check.is("ordered", x.ordered(3), state == 1);
            Check.is("the BACKUP", x.run(60), state == 1 ? 2 : 1);
            Check.is("ordered", x.ordered(3), state == 1);
        }
    }

    private static void latest() {
        Check.sentence("TIME 999999, DELAY and BACK 9999999: as late as can be");
        GridHouse y = chain();
        y.set(1, 0, 1, 999999);
        y.set(1, 1, 1, 999999);
        y.relay(0, 0, 2, 0);
        y.row(1, 0, 9999999);
        y.backup(9999999);
        y.set(1, 2, 1, 999999);
        y.begin();
        Check.is("the ORDER of s", y.run(9999998), 1);
        Check.is("the trip of u", y.run(9999999), 1);
        Check.is("run", y.run(10999997), 0);
        Check.is("the BACKUP, and u opens", y.run(10999998), 2);
        Check.is("u", y.opened(0, 0), 2);
        Check.is("at", y.opened(0, 1), 10999998);
        Check.is("v and t", y.run(Integer.MAX_VALUE), 2);
        Check.is("v", y.opened(1, 0), 3);
        Check.is("at", y.opened(1, 1), 11000006);
        Check.is("t", y.opened(2, 0), 1);
        Check.is("at", y.opened(2, 1), 11999997);
    }

    private static void manyOpened() {
        Check.sentence("Promise 41: switch k (0 the first) that opened (what 0), when (1);"
                + " NONE: none such, another what");
        StringBuilder t = new StringBuilder("bar a;bar b;bar c;");
        for (int s = 0; s < 24; s++) {
            t.append("switch s").append(s).append(" a b closed ").append(100 - s / 2).append(";");
        }
        t.append("line l b c 2 2 1;machine g a 2 2 0 9 1 1 1 1;");
        GridHouse x = Check.house(t.toString());
        x.shortAt(0, 2, 0);
        x.relay(0, 0, 23, 0);
        x.row(0, 0, 0);
        x.fails(23, true);
        x.backup(0);
        x.begin();
        Check.is("run", x.run(1000), 25);
        // the BACKUP is at 89; of two that open at one time the first is first
        int[] order = {22, 20, 21, 18, 19, 16, 17, 14, 15, 12, 13, 10, 11, 8, 9, 6, 7, 4, 5, 2, 3, 0, 1};
        for (int k = 0; k < 23; k++) {
            Check.is("opened", x.opened(k, 0), order[k]);
            Check.is("opened at", x.opened(k, 1), 89 + 100 - order[k] / 2);
        }
        for (int none : new int[] {23, 24, -1, 1 << 30, Integer.MIN_VALUE, Integer.MAX_VALUE}) {
            Check.is("opened", x.opened(none, 0), -1);
            Check.is("opened at", x.opened(none, 1), -1);
        }
        for (int what : new int[] {-1, 2, Integer.MIN_VALUE, Integer.MAX_VALUE}) {
            Check.is("another what", x.opened(0, what), -1);
        }
        Check.sentence("Promise 42: whether a switch got an ORDER in the RUN; false, too: no such switch");
        Check.is("the last switch", x.ordered(23), true);
        Check.is("the first", x.ordered(0), true);
        for (int none : new int[] {24, -1, Integer.MIN_VALUE, Integer.MAX_VALUE}) {
            Check.is("ordered", x.ordered(none), false);
        }
    }

    private static void secondLine() {
        Check.sentence("A RELAY is at an end of a line");
        // 5 and 3 beside 5
        GridHouse x = Check.house("bar a;bar b;switch s a b open 1;line l a b 3 1 1;line k b a 5 1 1;"
                + "machine g a 5 1 0 9 1 1 1 1;");
        x.shortAt(0, 1, 0);
        Check.makes("into", x, x.into(1), 1, "1600/11");
        Check.makes("l", x, x.current(0, 0, 1), 1, "1000/11");
        Check.makes("k", x, x.current(1, 1, 1), 1, "600/11");
        for (int r = 0; r < 4; r++) {
            x.relay(r / 2, r % 2, 0, 0);
            for (int setting : new int[] {54, 55, 90, 91}) {
                x.row(r, setting, 0);
            }
        }
        for (int row = 0; row < 4; row++) {
            Check.is("l", x.met(0, row), row < 3);
            Check.is("l", x.met(1, row), row < 3);
            Check.is("k", x.met(2, row), row < 1);
            Check.is("k", x.met(3, row), row < 1);
        }
        Check.is("begin", x.begin(), 8);
        for (int r = 4; r < 8; r++) {
            x.relay((r - 4) / 2, r % 2, 0, 1);
            x.row(r, 99999, 0);
        }
        Check.is("out of l at b", x.met(5, 0), false);
        Check.is("into l at a", x.met(4, 0), true);
        Check.is("out of k at b", x.met(6, 0), false);
        Check.is("into k at a", x.met(7, 0), true);
    }

    private static void unknownInRun() {
        Check.sentence("An unknown one counts as open, in a RUN, too");
        GridHouse x = again(12);
        x.set(1, 1, 0, 2);
        // without k, which is behind u: g and h beside one another, and l
        Check.makes("l", x, x.current(0, 0, 1), 1, "1000/3");
        x.row(2, 333, 0);
        x.row(2, 334, 0);
        Check.is("333 and 1/3", x.begin(), 4);
        Check.is("s and w, none for u", x.run(0), 2);
        Check.is("ordered", x.ordered(1), false);
        x.set(1, 1, 0, 1);
        x.set(1, 0, 0, 2);
        Check.makes("l", x, x.current(0, 0, 1), 1, "500/3");
        Check.is("166 and 2/3", x.begin(), 2);
    }

    private static void newNets() {
        Check.sentence("Promise 4: meters, relays go, too");
        GridHouse x = again(12);
        x.row(0, 1, 1);
        x.meter(2, 1, 5, 1);
        x.strike(0, true);
        Check.net(x, AGAIN);
        Check.refuses("no relay", Check.INDEX, () -> x.met(0, 0));
        Check.refuses("no relay", Check.INDEX, () -> x.row(0, 0, 0));
        Check.refuses("no meter", Check.INDEX, () -> x.strike(0, false));
        Check.is("relay", x.relay(0, 0, 0, 0), 0);
        Check.refuses("no rows yet", Check.INDEX, () -> x.met(0, 0));
        Check.is("row", x.row(0, 7, 0), 0);
        Check.is("meter", x.meter(2, 1, 5, 1), 0);
        Check.is("it is not STRUCK", x.strike(0, false), false);
    }

    private static void noRun() {
        Check.sentence("Promises 40 to 42: no RUN");
        GridHouse x = again(12);
        Check.refuses("run", Check.STATE, () -> x.run(0));
        Check.is("opened", x.opened(0, 0), -1);
        Check.is("ordered", x.ordered(0), false);
        x.begin();
        x.run(30);
        Check.is("opened", x.opened(0, 0), 0);
        Check.is("ordered", x.ordered(0), true);
        x.set(1, 0, 0, 1);
        Check.refuses("run", Check.STATE, () -> x.run(Integer.MAX_VALUE));
        Check.refuses("no RUN comes ahead of a TIME below", Check.STATE, () -> x.run(-1));
        Check.is("opened", x.opened(0, 0), -1);
        Check.is("opened", x.opened(0, 1), -1);
        Check.is("ordered", x.ordered(0), false);
    }

    private static void greaterPhase() {
        Check.sentence("let u be the greater one of these squares, v the square of the same phase");
        GridHouse x = Check.house(NET);
        x.shortAt(2, 1, 0);
        // nothing flows in phase a; v is 28 times u in phase b, in phase a 48 times that u
        Check.makes("phase a", x, x.current(0, 0, 3), 0, "0/1");
        Check.makes("phase b", x, x.current(0, 0, 4), 1, "62500/3");
        Check.makes("phase b at a", x, x.voltage(0, 4), 1, "1750000/3");
        Check.makes("phase a at a", x, x.voltage(0, 3), 1, "1000000/1");
        x.relay(0, 0, 0, 1);
        for (int setting = 4; setting <= 7; setting++) {
            x.row(0, setting, 0);
            Check.is("setting " + setting, x.met(0, setting - 4), setting >= 6);
        }
    }

    /** The switches s and u open at one TIME, w gets its ORDER by a row of a line. */
    private static GridHouse together(int line, int setting, int delay) {
        GridHouse x = Check.house(AGAIN);
        x.set(1, 1, 1, 10);
        x.shortAt(0, 1, 0);
        x.relay(0, 0, 0, 0);
        x.row(0, 0, 0);
        x.relay(0, 0, 1, 0);
        x.row(1, 0, 0);
        x.relay(line, 0, 2, 0);
        x.row(2, setting, delay);
        x.begin();
        return x;
    }

    private static void together() {
        Check.sentence("Looked at is at 0, and whenever a switch opened (behind all openings of that TIME)");
        // in l 250 ahead of 10 and behind it, but 500/3 with one of both open
        GridHouse x = together(0, 200, 12);
        Check.is("two trips", x.run(9), 2);
        Check.is("two openings", x.run(10), 2);
        Check.is("not before", x.run(11), 0);
        Check.is("MET SINCE 0", x.run(12), 1);
        Check.is("ordered", x.ordered(2), true);
        // in k 250 ahead of 10, and 0 behind it
        for (int delay = 9; delay <= 11; delay++) {
            GridHouse y = together(1, 200, delay);
            Check.is("with delay " + delay, y.run(100), delay == 9 ? 6 : 4);
            Check.is("ordered", y.ordered(2), delay == 9);
        }
        // 125 more when u alone is open: MET SINCE 10, or SINCE 0, which a look at 10 leaves
        for (int setting : new int[] {249, 250}) {
            GridHouse z = Check.house(AGAIN);
            z.shortAt(0, 1, 0);
            z.relay(0, 0, 1, 0);
            z.row(0, 0, 0);
            z.set(1, 1, 1, 10);
            z.relay(0, 0, 2, 0);
            z.row(1, setting, 30);
            z.begin();
            Check.is("the trip and the opening of u", z.run(29), 2);
            Check.is("at 30", z.run(30), setting == 249 ? 1 : 0);
            Check.is("at 40", z.run(40), 1);
        }
    }

    private static void staysClosed() {
        Check.sentence("if it FAILS, it does not open");
        GridHouse x = Check.house("bar a;bar b;bar c;bar d;bar e;switch s a b closed 10;switch t b e closed 5;"
                + "switch w c d closed 3;line l b c 2 2 1;machine g a 2 2 0 9 1 1 1 1;");
        x.shortAt(0, 2, 0);
        x.relay(0, 0, 0, 0);
        x.row(0, 0, 0);
        x.relay(0, 0, 2, 0);
        x.row(1, 0, 1000);
        x.fails(0, true);
        x.backup(50);
        x.begin();
        Check.is("the ORDER, the BACKUP, and t opens", x.run(999), 3);
        Check.is("w is not at a node of s", x.ordered(2), false);
        Check.is("it flows in l as before", x.run(1000), 1);
        Check.is("ordered", x.ordered(2), true);
    }

    private interface Deed {
        void on(GridHouse x);
    }

    /** A RUN in which s has opened at 10 and u, w follow, and what is done in it. */
    private static GridHouse within(Deed deed) {
        GridHouse x = again(12);
        x.keep(1);
        Check.order(x, "open s;");
        Check.is("begin", x.begin(), 3);
        Check.is("run", x.run(10), 3);
        deed.on(x);
        return x;
    }

    private static void ends(String what, Deed deed) {
        GridHouse x = within(deed);
        Check.is("opened behind " + what, x.opened(0, 0), -1);
        Check.is("ordered behind " + what, x.ordered(0), false);
        Check.refuses("run behind " + what, Check.STATE, () -> x.run(40));
    }

    private static void changes() {
        Check.sentence("A call that CHANGES THE NET ends the RUN, also one by which nothing is another");
        ends("set()", x -> x.set(1, 0, 0, 1));
        ends("set() of a line", x -> x.set(2, 0, 3, 1));
        ends("set() of a machine", x -> x.set(3, 0, 6, 0));
        ends("back()", x -> x.back(1));
        ends("the same shortAt()", x -> x.shortAt(0, 1, 0));
        ends("another shortAt()", x -> x.shortAt(1, 2, 3));
        ends("shortOn()", x -> x.shortOn(0, 0, 8, 0));
        ends("clearShort()", x -> x.clearShort());
        ends("relay()", x -> x.relay(0, 0, 0, 0));
        ends("row()", x -> x.row(0, 99999, 9999999));
        ends("fails()", x -> x.fails(2, true));
        ends("the same fails()", x -> x.fails(0, false));
        ends("backup()", x -> x.backup(5));
        ends("the same backup()", x -> x.backup(100000));
        ends("the same net()", x -> Check.net(x, AGAIN));
        ends("a net() without objects", x -> x.net());
        ends("carry()", x -> x.carry());
    }

    private static void goesOn(String what, Deed deed) {
        GridHouse x = within(deed);
        Check.is("opened behind " + what, x.opened(0, 1), 10);
        Check.is("ordered behind " + what, x.ordered(0), true);
        Check.is("run behind " + what, x.run(40), 3);
    }

    private static void onlyAsks() {
        Check.sentence("A call that CHANGES THE NET ends the RUN; no other one does, nor one with a FAULT, or refused");
        goesOn("net() with a FAULT", x -> Check.net(x, AGAIN + "bar"));
        goesOn("rules()", x -> Check.rules(x, "no open if live it from;no open if lost is 0;"));
        goesOn("rules() with a FAULT", x -> Check.rules(x, "no"));
        goesOn("order()", x -> Check.order(x, "open s;open u;"));
        goesOn("find()", x -> Check.find(x, "s"));
        goesOn("keep()", x -> x.keep(1));
        goesOn("meter()", x -> x.meter(0, 0, 1, 1));
        goesOn("strike()", x -> {
            x.meter(0, 0, 1, 1);
            x.strike(0, true);
            x.worst();
            x.seen(1);
        });
        goesOn("carry() of no step", x -> {
            Check.order(x, "close s;open s;");
            Check.is("carry", x.carry(), 0);
        });
        goesOn("carry() of an empty order", x -> {
            x.order();
            Check.is("carry", x.carry(), 0);
        });
        goesOn("what is asked of flows", x -> {
            x.screen();
            x.count(14);
            x.bar(1, 4);
            x.angle(1);
            x.carries(0);
            x.gives(0);
        });
        goesOn("what is asked of the SHORT", x -> {
            x.into(1);
            x.voltage(1, 3);
            x.current(0, 0, 4);
            x.met(0, 0);
        });
        goesOn("what is asked of dispatch and order", x -> {
            x.dispatch();
            x.cost();
            x.sets(0);
            x.barred(0);
            x.restore(3);
            x.step(0);
        });
        goesOn("what is refused", x -> {
            Check.refuses("set", Check.ARGUMENT, () -> x.set(1, 0, 0, 3));
            Check.refuses("back", Check.STATE, () -> x.back(0));
            Check.refuses("shortAt", Check.ARGUMENT, () -> x.shortAt(4, 0, 0));
            Check.refuses("shortOn", Check.ARGUMENT, () -> x.shortOn(0, 0, 16, 0));
            Check.refuses("relay", Check.ARGUMENT, () -> x.relay(0, 0, 0, 2));
            Check.refuses("row", Check.ARGUMENT, () -> x.row(0, -1, 0));
            Check.refuses("fails", Check.INDEX, () -> x.fails(3, true));
            Check.refuses("backup", Check.ARGUMENT, () -> x.backup(-1));
            Check.refuses("run", Check.ARGUMENT, () -> x.run(9));
        });
    }
}
