/** Promises 14 to 27: flows, outages and estimates, by answers worked out by hand. */
public final class FlowPromisesTest {
    /** G is 60, the SHARES are 2 and 1: g gives 40, h 30; 40 go over two lines with X 2 and 4; d is dead. */
    private static final String NET = "bar a;bar b;bar c;bar d;switch s a b closed 5;switch u c d open 5;"
            + "line l a c 2 1 30;line k b c 4 1 30;machine g a 1 1 0 99 1 1 1 2;machine h c 1 1 10 99 1 1 1 1;"
            + "load p c 70;load q d 8;";
    private static final String METERED = "bar a;bar b;bar c;bar d;line l a b 2 1 9;line k b c 1 1 9;";

    private FlowPromisesTest() {
    }

    public static void main(String[] args) {
        bars();
        numbers();
        stuck();
        figures();
        screens();
        tells();
        meters();
        seen();
        estimates();
        worsts();
        offLines();
        Check.close("FlowPromisesTest");
    }

    private static void bars() {
        Check.promise(14);
        GridHouse x = Check.house(NET);
        int[][] due = {{0, 0, 1, 0, 1}, {0, 0, 1, 0, 1}, {2, 0, 1, 0, 1}, {3, 3, 0, 0, 0}};
        for (int b = 0; b < 4; b++) {
            for (int what = 0; what < 5; what++) {
                Check.is("bar " + b + " " + what, x.bar(b, what), due[b][what]);
            }
        }
        x.set(1, 1, 0, 2);
        Check.is("an unknown switch is open", x.bar(3, 0), 3);
        Check.is("and may make live", x.bar(3, 4), 2);
        Check.is("live stays live", x.bar(2, 4), 1);
        x.set(1, 1, 0, 1);
        Check.is("closed", x.bar(3, 0), 2);
        Check.is("live", x.bar(3, 4), 1);
        x.set(1, 1, 0, 2);
        x.set(3, 0, 0, 0);
        x.set(3, 1, 0, 0);
        Check.is("no machine is ON", x.bar(0, 2), 0);
        Check.is("none can make live", x.bar(3, 4), 0);
        Check.refuses("bar", Check.INDEX, () -> x.bar(4, 9));
        Check.refuses("bar", Check.INDEX, () -> x.bar(-1, 0));
        Check.refuses("bar", Check.ARGUMENT, () -> x.bar(0, -1));
        Check.refuses("bar", Check.ARGUMENT, () -> x.bar(0, 5));
    }

    private static void numbers() {
        GridHouse x = Check.house(NET);
        Check.promise(15);
        Check.makes("angle", x, x.angle(0), 0, "0/1");
        Check.makes("angle", x, x.angle(2), -1, "160/3");
        Check.makes("angle", x, x.angle(1), 0, "0/1");
        Check.makes("angle of a dead bar", x, x.angle(3), 0, "0/1");
        x.angle(2);
        Check.refuses("angle", Check.INDEX, () -> x.angle(4));
        Check.refuses("angle", Check.INDEX, () -> x.angle(-1));
        Check.inHand("a call that throws", x, "160/3");
        Check.promise(16);
        Check.makes("carries", x, x.carries(0), 1, "80/3");
        Check.makes("carries", x, x.carries(1), 1, "40/3");
        Check.refuses("carries", Check.INDEX, () -> x.carries(2));
        x.set(2, 0, 0, 0);
        Check.makes("not IN", x, x.carries(0), 0, "0/1");
        Check.makes("the other", x, x.carries(1), 1, "40/1");
        x.set(2, 0, 0, 1);
        Check.promise(17);
        Check.makes("gives", x, x.gives(0), 1, "40/1");
        Check.makes("gives", x, x.gives(1), 1, "30/1");
        x.set(4, 0, 0, 71);
        Check.makes("gives", x, x.gives(0), 1, "122/3");
        Check.makes("gives", x, x.gives(1), 1, "91/3");
        x.set(4, 0, 0, 4);
        Check.makes("gives", x, x.gives(0), -1, "4/1");
        Check.makes("carries", x, x.carries(0), -1, "8/3");
        x.set(3, 0, 0, 0);
        Check.makes("not ON", x, x.gives(0), 0, "0/1");
        Check.refuses("gives", Check.INDEX, () -> x.gives(2));
        // both ends of a line at one node
        x.set(3, 0, 0, 1);
        Check.net(x, "bar a;bar b;switch s a b closed 1;line l a b 3 3 0;machine g b 1 1 5 9 1 1 1 1;load p a 7;");
        Check.makes("carries", x, x.carries(0), 0, "0/1");
        Check.is("OVER", x.count(14), 0);
    }

    private static void stuck() {
        Check.promise(17);
        GridHouse x = Check.house(NET);
        x.set(3, 0, 9, 0);
        x.set(3, 1, 9, 0);
        Check.is("STUCK", x.bar(1, 3), 1);
        Check.is("STUCK", x.bar(3, 3), 0);
        Check.makes("gives", x, x.gives(1), 0, "0/1");
        Check.makes("angle", x, x.angle(2), 0, "0/1");
        Check.makes("carries", x, x.carries(0), 0, "0/1");
        Check.is("count 13", x.count(13), 1);
        Check.is("LOST", x.count(15), 8);
        x.set(4, 0, 0, 10);
        Check.is("balanced, not STUCK", x.bar(1, 3), 0);
        Check.makes("gives", x, x.gives(1), 1, "10/1");
        Check.makes("gives", x, x.gives(0), 0, "0/1");
    }

    private static void figures() {
        GridHouse x = Check.house(NET);
        x.angle(2);
        Check.promise(18);
        Check.is("figures", x.figures(0), 3);
        Check.is("figures", x.figures(1), 1);
        Check.refuses("figures", Check.ARGUMENT, () -> x.figures(2));
        Check.refuses("figures", Check.ARGUMENT, () -> x.figures(-1));
        Check.promise(19);
        int[] due = {0, 6, 1, -1};
        for (int i = 0; i < due.length; i++) {
            Check.is("figure " + i, x.figure(0, i), due[i]);
        }
        Check.is("figure", x.figure(0, -1), -1);
        Check.is("figure", x.figure(0, Integer.MAX_VALUE), -1);
        Check.is("figure", x.figure(1, 0), 3);
        Check.is("figure", x.figure(1, 1), -1);
        Check.refuses("figure", Check.ARGUMENT, () -> x.figure(2, 0));
        Check.refuses("figure", Check.ARGUMENT, () -> x.figure(-1, 0));
        x.angle(0);
        Check.is("0 has one figure", x.figures(0), 1);
        Check.is("it is 0", x.figure(0, 0), 0);
        Check.is("by 1", x.figure(1, 0), 1);
    }

    private static void screens() {
        Check.promise(20);
        GridHouse x = Check.house(NET);
        Check.is("screen", x.screen(), 2);
        x.set(2, 0, 3, 40);
        Check.is("screen", x.screen(), 1);
        x.set(2, 1, 3, 40);
        Check.is("screen", x.screen(), 0);
        x.set(2, 1, 0, 0);
        Check.is("two islands, both balance", x.screen(), 0);
        x.set(3, 1, 9, 0);
        Check.is("STUCK", x.screen(), 1);
        x.set(3, 1, 0, 0);
        Check.is("LOST", x.screen(), 1);
        x.set(3, 0, 0, 0);
        Check.is("a dead island is not screened", x.screen(), 0);
        Check.is("the net stays", x.get(2, 0, 0), 1);
    }

    private static void tell(GridHouse x, int k, int line, int which, int lost, int over) {
        int[] due = {line, which, lost, over};
        for (int what = 0; what < 4; what++) {
            Check.is("trouble " + k + " " + what, x.trouble(k, what), due[what]);
        }
    }

    private static void tells() {
        Check.promise(21);
        GridHouse x = Check.house(NET);
        tell(x, 0, 0, 3, 0, 1);
        tell(x, 1, 1, 3, 0, 1);
        Check.refuses("trouble", Check.INDEX, () -> x.trouble(2, 9));
        Check.refuses("trouble", Check.INDEX, () -> x.trouble(-1, 0));
        Check.refuses("trouble", Check.ARGUMENT, () -> x.trouble(0, 4));
        Check.refuses("trouble", Check.ARGUMENT, () -> x.trouble(1, -1));
        x.set(2, 0, 3, 40);
        tell(x, 0, 0, 3, 0, 1);
        Check.refuses("trouble", Check.INDEX, () -> x.trouble(1, 0));
        x.set(2, 0, 0, 0);
        Check.is("OVER now", x.count(14), 1);
        x.set(3, 1, 9, 0);
        tell(x, 0, 1, 1, 0, 0);
        x.set(3, 1, 0, 0);
        tell(x, 0, 1, 2, 70, 0);
    }

    private static void meters() {
        Check.promise(22);
        GridHouse x = Check.house(METERED);
        Check.refuses("kind", Check.ARGUMENT, () -> x.meter(3, 99, 0, 0));
        Check.refuses("kind", Check.ARGUMENT, () -> x.meter(-1, 0, 0, 1));
        Check.refuses("at", Check.INDEX, () -> x.meter(0, 2, 100000, 1));
        Check.refuses("at", Check.INDEX, () -> x.meter(1, 4, 0, 0));
        Check.refuses("at", Check.INDEX, () -> x.meter(2, -1, 0, 1));
        Check.refuses("v", Check.ARGUMENT, () -> x.meter(0, 0, 100000, 1));
        Check.refuses("v", Check.ARGUMENT, () -> x.meter(0, 0, -100000, 1));
        Check.refuses("w", Check.ARGUMENT, () -> x.meter(0, 0, 0, 0));
        Check.refuses("w", Check.ARGUMENT, () -> x.meter(0, 0, 0, 100));
        x.shortAt(0, 0, 0);
        x.begin();
        for (int i = 0; i < 32; i++) {
            Check.is("meter", x.meter(i % 3, 1, i % 2 == 0 ? 99999 : -99999, 1 + i * 3), i);
        }
        Check.refuses("the 33rd", Check.STATE, () -> x.meter(0, 0, 0, 1));
        Check.refuses("the 33rd", Check.ARGUMENT, () -> x.meter(0, 0, 0, 0));
        Check.is("count", x.count(5), 32);
        Check.is("meters leave the run", x.run(1), 0);
        Check.promise(23);
        Check.is("strike", x.strike(31, false), false);
        Check.is("strike", x.strike(31, true), false);
        Check.is("strike", x.strike(31, true), true);
        Check.is("strike", x.strike(31, false), true);
        Check.refuses("strike", Check.INDEX, () -> x.strike(32, true));
        Check.refuses("strike", Check.INDEX, () -> x.strike(-1, true));
    }

    private static void seen() {
        Check.promise(24);
        GridHouse x = Check.house(METERED);
        Check.is("seen", x.seen(0), 1);
        Check.is("seen", x.seen(1), 0);
        Check.is("an island of one node", x.seen(3), 2);
        x.meter(0, 0, 3, 1);
        Check.is("seen", x.seen(1), 1);
        Check.is("seen", x.seen(2), 0);
        x.meter(0, 1, 3, 1);
        for (int b = 0; b < 4; b++) {
            Check.is("seen", x.seen(b), 2);
        }
        x.strike(0, true);
        Check.is("seen", x.seen(0), 1);
        Check.is("seen", x.seen(1), 0);
        Check.is("seen", x.seen(2), 0);
        x.meter(2, 2, 3, 1);
        Check.is("seen", x.seen(1), 2);
        x.set(2, 1, 0, 0);
        Check.is("the line's meter shows 0", x.seen(0), 1);
        Check.is("the line's meter shows 0", x.seen(1), 0);
        Check.is("an island of one node", x.seen(2), 2);
        Check.refuses("seen", Check.INDEX, () -> x.seen(4));
        // the sum at b sees nothing alone, with the angle of c it sees b
        GridHouse y = Check.house(METERED);
        y.meter(1, 1, 0, 1);
        Check.is("seen", y.seen(1), 0);
        Check.is("seen", y.seen(2), 0);
        y.meter(2, 2, 0, 1);
        Check.is("seen", y.seen(1), 2);
    }

    private static void estimates() {
        Check.promise(25);
        GridHouse x = Check.house(METERED);
        x.meter(0, 0, 3, 1);
        x.meter(2, 1, -7, 1);
        Check.refuses("estimate", Check.STATE, () -> x.estimate(1));
        Check.refuses("estimate", Check.STATE, () -> x.estimate(0));
        Check.makes("estimate", x, x.estimate(3), 0, "0/1");
        Check.refuses("rest", Check.STATE, () -> x.rest(0, 0));
        x.meter(0, 1, 5, 2);
        Check.makes("estimate", x, x.estimate(0), 0, "0/1");
        Check.makes("estimate", x, x.estimate(1), -1, "34/5");
        Check.makes("estimate", x, x.estimate(2), -1, "59/5");
        Check.refuses("estimate", Check.INDEX, () -> x.estimate(4));
        Check.promise(26);
        Check.makes("rest", x, x.rest(0, 0), -1, "2/5");
        Check.makes("rest", x, x.rest(1, 0), -1, "1/5");
        Check.makes("rest", x, x.rest(2, 0), 0, "0/1");
        Check.makes("spread", x, x.rest(0, 1), 1, "4/5");
        Check.makes("spread", x, x.rest(1, 1), 1, "1/5");
        Check.makes("spread", x, x.rest(2, 1), 0, "0/1");
        Check.refuses("rest", Check.INDEX, () -> x.rest(3, 9));
        Check.refuses("rest", Check.INDEX, () -> x.rest(-1, 0));
        Check.refuses("rest", Check.ARGUMENT, () -> x.rest(0, 2));
        Check.refuses("rest", Check.ARGUMENT, () -> x.rest(0, -1));
        x.meter(2, 1, -7, 3);
        // the sum of squares at b: 1/4 + 1 + 3
        Check.makes("spread by weight", x, x.rest(3, 1), 1, "5/51");
        Check.makes("estimate by weight", x, x.estimate(1), -1, "118/17");
        x.strike(3, true);
        Check.makes("a struck one's rest", x, x.rest(3, 0), -1, "1/5");
        Check.refuses("a struck one's spread", Check.STATE, () -> x.rest(3, 1));
        // a sum: what lines carry away from b, (b - a) / 2 + (b - c)
        x.meter(1, 1, 9, 1);
        x.strike(4, true);
        Check.makes("a sum's rest", x, x.rest(4, 0), 1, "37/5");
        x.meter(2, 3, 6, 4);
        Check.makes("on a node alone", x, x.rest(5, 0), 1, "6/1");
        Check.makes("on a node alone", x, x.rest(5, 1), 1, "1/4");
    }

    private static void worsts() {
        Check.promise(27);
        GridHouse x = Check.house(METERED);
        Check.is("worst", x.worst(), -1);
        x.meter(0, 0, 3, 1);
        x.meter(2, 1, -7, 1);
        Check.is("not whole", x.worst(), -1);
        x.meter(0, 1, 5, 2);
        Check.is("of two alike the first", x.worst(), 0);
        x.meter(2, 3, 1, 1);
        Check.is("1 is above 1/5", x.worst(), 3);
        x.strike(3, true);
        Check.is("worst", x.worst(), 0);
        x.strike(0, true);
        Check.is("no spread is above 0", x.worst(), -1);
        GridHouse y = Check.house(METERED);
        y.meter(2, 3, 0, 1);
        Check.is("a rest of 0 is the greatest, too", y.worst(), 0);
        y.meter(2, 3, -9, 5);
        Check.is("the square is of the rest", y.worst(), 1);
        y.meter(2, 3, 20, 1);
        Check.is("400 is not above 405", y.worst(), 1);
        y.meter(2, 0, 9999, 99);
        Check.is("not in a whole island", y.worst(), 1);
        y.meter(2, 3, 21, 1);
        Check.is("441 is", y.worst(), 4);
    }

    private static void offLines() {
        Check.promise(22);
        GridHouse x = Check.house(METERED);
        x.meter(0, 1, 5, 1);
        x.set(2, 1, 0, 0);
        // it is of end 0's island, a and b
        Check.refuses("rest", Check.STATE, () -> x.rest(0, 0));
        x.meter(2, 1, 4, 1);
        Check.makes("rest", x, x.rest(0, 0), 1, "5/1");
        Check.makes("spread", x, x.rest(0, 1), 1, "1/1");
        Check.makes("estimate", x, x.estimate(1), 1, "4/1");
    }
}
