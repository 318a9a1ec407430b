/** Each boundary that the document names for the dispatch and its prices: section 6, promises 43 to 46. */
public final class DispatchBoundsTest {
    private static final String ONE = "bar a;bar b;machine g a 1 1 30 90 2 50 4 0;load p a 40;load q b 5;";
    private static final String PAIR = "bar a;bar b;line l a b 1 1 10;machine g a 1 1 0 100 2 50 4 1;"
            + "machine h b 1 1 0 100 5 100 5 1;load p b 30;load q a 0;";
    /** Of what g gives 1/2 goes over m, of what h gives 1/6. */
    private static final String RING = "bar a;bar b;bar c;line k a b 2 1 99;line l b c 1 1 99;line m a c 3 1 17;"
            + "machine g a 1 1 0 100 1 100 1 1;machine h b 1 1 0 100 3 100 3 1;load p c 45;";

    private DispatchBoundsTest() {
    }

    public static void main(String[] args) {
        fromLoToHi();
        costs();
        greatCosts();
        limits();
        islands();
        ties();
        tiesUnderLimits();
        tiesByWays();
        backAgain();
        prices();
        fractionsOfPrices();
        noPrices();
        nothing();
        manyMachines();
        sixUnderLimits();
        sixIslands();
        Check.close("DispatchBoundsTest");
    }

    private static void fromLoToHi() {
        Check.sentence("A machine that is ON gives from LO to HI");
        GridHouse x = Check.house(ONE);
        int[][] due = {{0, 0}, {29, 0}, {30, 1}, {31, 1}, {89, 1}, {90, 1}, {91, 0}, {9999, 0}};
        for (int[] d : due) {
            x.set(4, 0, 0, d[0]);
            Check.is("dispatch of " + d[0], x.dispatch(), d[1]);
            if (d[1] == 1) {
                Check.makes("sets", x, x.sets(0), 1, d[0] + "/1");
            } else {
                Check.refuses("sets", Check.STATE, () -> x.sets(0));
                Check.refuses("cost", Check.STATE, () -> x.cost());
            }
        }
        x.set(3, 0, 4, 90);
        for (int load = 89; load <= 91; load++) {
            x.set(4, 0, 0, load);
            Check.is("LO is HI", x.dispatch(), load == 90 ? 1 : 0);
        }
        x.set(3, 0, 4, 0);
        x.set(4, 0, 0, 0);
        Check.makes("from 0", x, x.sets(0), 0, "0/1");
        Check.sentence("p of a machine by THE DISPATCH (0, if it is not ON)");
        x.set(3, 0, 4, 30);
        Check.is("LO is above the load", x.dispatch(), 0);
        x.set(3, 0, 0, 0);
        Check.makes("not ON", x, x.sets(0), 0, "0/1");
        Check.sentence("neither MW nor SHARES matter");
        GridHouse y = Check.house(ONE);
        y.set(3, 0, 1, 9999);
        Check.is("STUCK", y.bar(0, 3), 1);
        Check.makes("sets", y, y.sets(0), 1, "40/1");
    }

    private static void costs() {
        Check.sentence("for p that COSTS C p up to M, C M and D (p - M) above");
        GridHouse x = Check.house(ONE);
        int[][] due = {{30, 60}, {49, 98}, {50, 100}, {51, 104}, {90, 260}};
        for (int[] d : due) {
            x.set(4, 0, 0, d[0]);
            Check.makes("cost of " + d[0], x, x.cost(), 1, d[1] + "/1");
        }
        // the load is 40: M and what it costs
        int[][] breaks = {{0, 160}, {1, 158}, {29, 102}, {30, 100}, {31, 98}, {39, 82}, {40, 80}, {41, 80}, {90, 80},
            {91, 80}, {9999, 80}};
        x.set(4, 0, 0, 40);
        for (int[] b : breaks) {
            x.set(3, 0, 7, b[0]);
            Check.makes("with M " + b[0], x, x.cost(), 1, b[1] + "/1");
            Check.makes("sets", x, x.sets(0), 1, "40/1");
        }
        x.set(3, 0, 7, 20);
        x.set(3, 0, 6, 4);
        Check.makes("C is D", x, x.cost(), 1, "160/1");
        x.set(3, 0, 6, 0);
        Check.makes("for nothing up to 20", x, x.cost(), 1, "80/1");
        x.set(3, 0, 8, 0);
        Check.makes("for nothing", x, x.cost(), 0, "0/1");
    }

    private static void greatCosts() {
        Check.sentence("C, D 0 .. 999, MW 0 .. 9999");
        StringBuilder t = new StringBuilder("bar a;");
        for (int m = 0; m < 6; m++) {
            t.append("machine g").append(m).append(" a 1 1 0 9999 998 1 999 1;");
        }
        for (int i = 0; i < 6; i++) {
            t.append("load p").append(i).append(" a 9999;");
        }
        GridHouse x = Check.house(t.toString());
        // 6 9999 999, less 1 for each machine
        Check.makes("all give all", x, x.cost(), 1, "59934000/1");
        for (int m = 0; m < 6; m++) {
            Check.makes("sets", x, x.sets(m), 1, "9999/1");
        }
        Check.refuses("there is no 1 MW more", Check.STATE, () -> x.price(0));
        x.set(4, 0, 0, 9998);
        Check.makes("the first gives less", x, x.sets(0), 1, "9998/1");
        Check.makes("price", x, x.price(0), 1, "999/1");
        Check.makes("cost", x, x.cost(), 1, "59933001/1");
    }

    private static void limits() {
        Check.sentence("no line there carries more than its LIMIT, without sign");
        GridHouse x = Check.house(PAIR);
        int[][] due = {{0, 0}, {10, 10}, {29, 29}, {30, 30}, {31, 30}, {9999, 30}};
        for (int[] d : due) {
            x.set(2, 0, 3, d[0]);
            Check.makes("with LIMIT " + d[0], x, x.sets(0), d[1] == 0 ? 0 : 1, d[1] + "/1");
        }
        x.set(4, 0, 0, 0);
        x.set(4, 1, 0, 30);
        x.set(3, 1, 8, 999);
        x.set(3, 1, 6, 1);
        for (int[] d : due) {
            x.set(2, 0, 3, d[0]);
            Check.makes("from b to a, with LIMIT " + d[0], x, x.sets(1), d[1] == 0 ? 0 : 1, d[1] + "/1");
        }
        // g gives 20 at most: over the line 10 have to come
        x.set(3, 0, 5, 20);
        x.set(2, 0, 3, 10);
        Check.is("just enough", x.dispatch(), 1);
        x.set(2, 0, 3, 9);
        Check.is("too little", x.dispatch(), 0);
        x.set(2, 0, 3, 10);
        x.set(3, 0, 5, 19);
        Check.is("too little", x.dispatch(), 0);
        // at least so much has to go
        GridHouse y = Check.house(PAIR);
        y.set(3, 0, 4, 10);
        Check.is("LO is the LIMIT", y.dispatch(), 1);
        y.set(3, 0, 4, 11);
        Check.is("LO is above the LIMIT", y.dispatch(), 0);
        y.set(2, 0, 0, 0);
        Check.is("a line that is not IN has none to carry, and g none to give to", y.dispatch(), 0);
        y.set(4, 1, 0, 11);
        Check.is("dispatch", y.dispatch(), 1);
    }

    private static void islands() {
        Check.sentence("so that in each LIVE island these are its loads' MW together");
        GridHouse x = Check.house("bar a;bar b;bar c;line l b c 1 1 0;machine g a 1 1 0 5 1 9 1 1;"
                + "machine h b 1 1 2 9 3 9 3 1;"
                + "load p a 5;load q b 2;load r c 0;");
        Check.is("dispatch", x.dispatch(), 1);
        Check.makes("cost", x, x.cost(), 1, "11/1");
        x.set(4, 0, 0, 6);
        Check.is("a wants too much", x.dispatch(), 0);
        Check.refuses("b's price", Check.STATE, () -> x.price(1));
        Check.refuses("h's p", Check.STATE, () -> x.sets(1));
        x.set(4, 0, 0, 5);
        x.set(4, 1, 0, 1);
        Check.is("b wants too little", x.dispatch(), 0);
        x.set(4, 1, 0, 2);
        x.set(4, 2, 0, 1);
        Check.is("nothing goes to c", x.dispatch(), 0);
        x.set(2, 0, 0, 0);
        Check.is("c is DEAD: its load is LOST", x.dispatch(), 1);
        x.set(4, 2, 0, 9999);
        Check.is("c is DEAD", x.dispatch(), 1);
        x.set(3, 0, 0, 0);
        Check.makes("a is DEAD, too", x, x.cost(), 1, "6/1");
        x.set(4, 0, 0, 9999);
        Check.makes("a is DEAD, too", x, x.cost(), 1, "6/1");
        Check.refuses("price", Check.STATE, () -> x.price(0));
        Check.refuses("price", Check.STATE, () -> x.price(2));
        Check.makes("price", x, x.price(1), 1, "3/1");
    }

    private static void ties() {
        Check.sentence("of these with the least p of the first machine that is ON, of these with the least of the "
                + "second one");
        GridHouse x = Check.house("bar a;machine g a 1 1 1 9 3 5 3 1;machine h a 1 1 2 9 3 9 9 1;"
                + "machine i a 1 1 0 9 3 2 3 1;"
                + "load p a 12;");
        String[] due = {"1/1", "2/1", "9/1"};
        for (int m = 0; m < 3; m++) {
            Check.makes("sets", x, x.sets(m), 1, due[m]);
        }
        x.set(4, 0, 0, 13);
        due = new String[] {"1/1", "3/1", "9/1"};
        for (int m = 0; m < 3; m++) {
            Check.makes("sets", x, x.sets(m), 1, due[m]);
        }
        x.set(4, 0, 0, 20);
        due = new String[] {"2/1", "9/1", "9/1"};
        for (int m = 0; m < 3; m++) {
            Check.makes("sets", x, x.sets(m), 1, due[m]);
        }
        x.set(3, 0, 0, 0);
        x.set(4, 0, 0, 11);
        due = new String[] {"0/1", "2/1", "9/1"};
        for (int m = 0; m < 3; m++) {
            Check.makes("g is not ON", x, x.sets(m), m == 0 ? 0 : 1, due[m]);
        }
        Check.sentence("least COST comes ahead of the least p");
        GridHouse y = Check.house("bar a;machine g a 1 1 0 9 2 5 4 1;machine h a 1 1 0 9 3 9 3 1;load p a 9;");
        Check.makes("sets", y, y.sets(0), 1, "5/1");
        Check.makes("sets", y, y.sets(1), 1, "4/1");
        y.set(3, 1, 6, 2);
        y.set(3, 1, 8, 2);
        Check.makes("alike in cost now", y, y.sets(0), 0, "0/1");
    }

    /** Of what g gives to c two thirds go over m and one third over l, of what h gives the other way round. */
    private static final String TIED = "bar a;bar b;bar c;line k a b 1 1 99;line l b c 1 1 99;line m a c 1 1 20;"
            + "machine g a 1 1 0 100 1 100 1 1;machine h b 1 1 0 100 1 100 1 1;machine i c 1 1 0 0 1 100 1 1;"
            + "load p c 45;";

    private static void given(GridHouse x, String... due) {
        for (int m = 0; m < 3; m++) {
            Check.makes("sets " + m, x, x.sets(m), due[m].equals("0/1") ? 0 : 1, due[m]);
        }
    }

    private static void tiesUnderLimits() {
        Check.sentence("of these with the least p of the first machine that is ON, and so on, under LIMITS");
        GridHouse x = Check.house(TIED);
        given(x, "0/1", "45/1", "0/1");
        x.set(2, 1, 3, 30);
        given(x, "0/1", "45/1", "0/1");
        x.set(2, 1, 3, 29);
        given(x, "3/1", "42/1", "0/1");
        x.set(2, 1, 3, 26);
        given(x, "12/1", "33/1", "0/1");
        x.set(2, 1, 3, 25);
        given(x, "15/1", "30/1", "0/1");
        Check.makes("cost", x, x.cost(), 1, "45/1");
        x.set(2, 1, 3, 24);
        Check.is("both lines are full", x.dispatch(), 0);
        Check.refuses("price", Check.STATE, () -> x.price(2));
        x.set(3, 2, 5, 10);
        // i has to give 1 at least, and gives 10, for then g gives least
        given(x, "0/1", "35/1", "10/1");
        x.set(2, 1, 3, 20);
        given(x, "10/1", "25/1", "10/1");
        Check.makes("price", x, x.price(2), 1, "1/1");
        x.set(3, 2, 6, 0);
        x.set(3, 2, 8, 0);
        given(x, "10/1", "25/1", "10/1");
        x.set(3, 2, 8, 2);
        x.set(3, 2, 6, 2);
        // 40 go over both lines
        given(x, "20/1", "20/1", "5/1");
        Check.makes("cost", x, x.cost(), 1, "50/1");
        x.set(2, 1, 3, 25);
        given(x, "15/1", "30/1", "0/1");
        x.set(2, 1, 3, 26);
        given(x, "12/1", "33/1", "0/1");
    }

    /** Parts that the cheapest row without LIMITS takes whole have to be given back. */
    /** Of what f gives 2/3 go over l, of what h gives 1/3; g is where the load is. All cost the same. */
    private static void tiesByWays() {
        Check.sentence("of these with the least p of the first machine that is ON, of these with the least of the "
                + "second one: by what relieves the line most");
        String net = "bar a;bar b;bar c;line l b a 1 1 8;line k b c 1 1 99;line m c a 1 1 99;load p a 30;";
        String g = "machine g a 1 1 0 30 1 1 1 1;";
        String f = "machine f b 1 1 0 10 1 1 1 1;";
        String h = "machine h c 1 1 0 10 1 1 1 1;";
        given(Check.house(net + g + f + h), "13/1", "7/1", "10/1");
        given(Check.house(net + g + h + f), "13/1", "10/1", "7/1");
        given(Check.house(net + f + g + h), "0/1", "20/1", "10/1");
        given(Check.house(net + h + g + f), "0/1", "20/1", "10/1");
        given(Check.house(net + f + h + g), "0/1", "0/1", "30/1");
        int[] limits = {5, 3, 10, 0};
        String[][] due = {{"35/2", "5/2", "10/1"}, {"21/1", "0/1", "9/1"}, {"10/1", "10/1", "10/1"},
            {"30/1", "0/1", "0/1"}};
        for (int i = 0; i < limits.length; i++) {
            GridHouse x = Check.house(net + g + f + h);
            x.set(2, 0, 3, limits[i]);
            given(x, due[i]);
            Check.makes("cost", x, x.cost(), 1, "30/1");
            Check.makes("price", x, x.price(1), 1, "1/1");
        }
        // a machine ahead of them that has nothing to choose leaves the choice to the second one
        GridHouse y = Check.house(net + "machine o b 1 1 0 0 1 1 1 1;" + g + f + h);
        String[] second = {"0/1", "13/1", "7/1", "10/1"};
        for (int i = 0; i < second.length; i++) {
            Check.makes("sets " + i, y, y.sets(i), i == 0 ? 0 : 1, second[i]);
        }
        y.set(3, 0, 5, 2);
        y.set(3, 0, 4, 2);
        // 4/3 of its 2 go over l
        String[] ahead = {"2/1", "13/1", "5/1", "10/1"};
        for (int i = 0; i < ahead.length; i++) {
            Check.makes("sets " + i, y, y.sets(i), 1, ahead[i]);
        }
    }

    private static void backAgain() {
        Check.sentence("THE DISPATCH is that of all with the least COST in all");
        int[][] due = {{100, 105, 5}, {45, 105, 5}, {30, 105, 5}, {16, 105, 5}, {15, 105, 5}, {14, 106, 4}, {1, 119, 4},
            {0, 120, 4}};
        for (int[] d : due) {
            for (int low = 0; low <= 15; low += 5) {
                GridHouse x = Check.house(TIED);
                x.set(3, 1, 8, 3);
                x.set(3, 1, 6, 3);
                x.set(3, 0, 8, 2);
                x.set(3, 0, 7, d[0]);
                x.set(3, 0, 4, low);
                x.set(3, 1, 4, 2 * low);
                given(x, "15/1", "30/1", "0/1");
                Check.makes("cost with M " + d[0], x, x.cost(), 1, d[1] + "/1");
                if (low < 15) {
                    Check.makes("price with M " + d[0], x, x.price(2), 1, d[2] + "/1");
                } else {
                    Check.refuses("g cannot give less", Check.STATE, () -> x.price(2));
                }
            }
        }
    }

    private static void prices() {
        Check.sentence("the least COST, if 1 MW more were taken at it, less the least COST");
        GridHouse x = Check.house(ONE);
        int[][] due = {{30, 2}, {48, 2}, {49, 2}, {50, 4}, {89, 4}};
        for (int[] d : due) {
            x.set(4, 0, 0, d[0]);
            Check.makes("price at " + d[0], x, x.price(0), 1, d[1] + "/1");
        }
        x.set(4, 0, 0, 90);
        Check.is("dispatch", x.dispatch(), 1);
        Check.refuses("there is none with 1 MW more", Check.STATE, () -> x.price(0));
        x.set(4, 0, 0, 29);
        Check.is("there is none now, with 1 MW more there would be", x.dispatch(), 0);
        Check.refuses("price", Check.STATE, () -> x.price(0));
        x.set(3, 0, 6, 0);
        x.set(3, 0, 8, 0);
        x.set(4, 0, 0, 40);
        Check.makes("for nothing", x, x.price(0), 0, "0/1");
        GridHouse y = Check.house(PAIR);
        Check.makes("the line is full", y, y.price(1), 1, "5/1");
        Check.makes("g's own", y, y.price(0), 1, "2/1");
        y.set(2, 0, 3, 31);
        Check.makes("1 MW more is just within", y, y.price(1), 1, "2/1");
        y.set(2, 0, 3, 30);
        Check.makes("it is not", y, y.price(1), 1, "5/1");
        Check.inHand("stays in hand", y, "5/1");
        Check.makes("the DISPATCH stays", y, y.cost(), 1, "60/1");
        Check.is("the load stays", y.get(4, 0, 0), 30);
        y.set(4, 0, 0, 9999);
        Check.is("none", y.dispatch(), 0);
    }

    private static void fractionsOfPrices() {
        Check.sentence("any fraction");
        // 57/2 and 33/2; with 1 MW more 28 and 18
        int[][] due = {{100, 78, 4}, {18, 78, 4}, {17, 78, 6}, {16, 79, 7}, {0, 111, 7}};
        for (int[] d : due) {
            GridHouse x = Check.house(RING);
            x.set(3, 1, 8, 5);
            x.set(3, 1, 7, d[0]);
            Check.makes("sets", x, x.sets(0), 1, "57/2");
            Check.makes("sets", x, x.sets(1), 1, "33/2");
            Check.makes("cost", x, x.cost(), 1, d[1] + "/1");
            Check.makes("price with M " + d[0], x, x.price(2), 1, d[2] + "/1");
        }
        GridHouse x = Check.house(RING);
        x.set(3, 0, 7, 28);
        x.set(3, 0, 8, 2);
        Check.makes("M between", x, x.cost(), 1, "157/2");
        Check.makes("price", x, x.price(2), 1, "7/2");
    }

    private static void noPrices() {
        Check.sentence("IllegalState: there is no DISPATCH, the bar's island is DEAD, or there is none with 1 MW more");
        GridHouse x = Check.house(PAIR + "bar c;load r c 3;");
        Check.refuses("DEAD", Check.STATE, () -> x.price(2));
        x.set(3, 1, 5, 20);
        Check.makes("at a", x, x.price(0), 1, "2/1");
        Check.refuses("h gives no more, the line is full", Check.STATE, () -> x.price(1));
        x.set(3, 1, 5, 21);
        Check.makes("h gives 1 more", x, x.price(1), 1, "5/1");
        x.set(3, 0, 5, 10);
        Check.makes("h gives less to the line", x, x.price(0), 1, "5/1");
        x.set(3, 1, 5, 19);
        Check.is("none", x.dispatch(), 0);
        for (int bar = 0; bar < 3; bar++) {
            int b = bar;
            Check.refuses("none", Check.STATE, () -> x.price(b));
        }
    }

    private static void nothing() {
        Check.sentence("nothing to dispatch");
        GridHouse x = Check.house("bar a;load p a 9;machine g a 1 1 3 5 1 1 1 1;");
        Check.is("none", x.dispatch(), 0);
        x.set(3, 0, 0, 0);
        Check.is("no LIVE island", x.dispatch(), 1);
        Check.makes("cost", x, x.cost(), 0, "0/1");
        Check.makes("sets", x, x.sets(0), 0, "0/1");
        Check.refuses("price", Check.STATE, () -> x.price(0));
        GridHouse y = new GridHouse();
        Check.is("no net", y.dispatch(), 1);
        Check.makes("cost", y, y.cost(), 0, "0/1");
        Check.sentence("Promise 43: by the net as it is now");
        x.set(3, 0, 0, 1);
        Check.is("none", x.dispatch(), 0);
        x.set(3, 0, 5, 9);
        Check.is("one", x.dispatch(), 1);
        x.keep(0);
        x.set(4, 0, 0, 10);
        Check.is("none", x.dispatch(), 0);
        x.back(0);
        Check.is("one", x.dispatch(), 1);
    }

    /** The first and the last of six machines share what the lines let through. */
    private static void sixUnderLimits() {
        Check.sentence("MACHINES (6), under LIMITS");
        StringBuilder t = new StringBuilder("bar a;bar b;bar c;line k a b 1 1 99;line l b c 1 1 99;line m a c 1 1 20;"
                + "machine g0 a 1 1 0 100 1 100 1 1;");
        for (int m = 1; m < 5; m++) {
            t.append("machine g").append(m).append(" c 1 1 ").append(m).append(" ").append(m).append(" 9 9 9 1;");
        }
        t.append("machine g5 b 1 1 0 100 3 100 3 1;load p c 55;");
        GridHouse x = Check.house(t.toString());
        String[] due = {"15/1", "1/1", "2/1", "3/1", "4/1", "30/1"};
        for (int m = 0; m < 6; m++) {
            Check.makes("sets " + m, x, x.sets(m), 1, due[m]);
        }
        Check.makes("cost", x, x.cost(), 1, "195/1");
        Check.makes("price", x, x.price(2), 1, "5/1");
        x.set(3, 5, 6, 1);
        x.set(3, 5, 8, 1);
        due = new String[] {"0/1", "1/1", "2/1", "3/1", "4/1", "45/1"};
        for (int m = 0; m < 6; m++) {
            Check.makes("alike in cost: sets " + m, x, x.sets(m), m == 0 ? 0 : 1, due[m]);
        }
        x.set(2, 1, 3, 26);
        Check.makes("l lets 26 through", x, x.sets(0), 1, "12/1");
        Check.makes("l lets 26 through", x, x.sets(5), 1, "33/1");
    }

    /** Each machine in an island of its own, and all twenty lines. */
    private static void sixIslands() {
        Check.sentence("MACHINES (6), LINES (20), each island for itself");
        StringBuilder t = new StringBuilder();
        for (int b = 0; b < 12; b++) {
            t.append("bar b").append(b).append(";");
        }
        for (int l = 0; l < 20; l++) {
            int a = l % 6 * 2;
            t.append("line l").append(l).append(" b").append(a).append(" b").append(a + 1).append(" 1 1 5;");
        }
        for (int m = 0; m < 6; m++) {
            t.append("machine g").append(m).append(" b").append(2 * m).append(" 1 1 0 20 ").append(m).append(" 9 ")
                    .append(m + 1).append(" 1;load p").append(m).append(" b").append(2 * m + 1).append(" ")
                    .append(m < 2 ? 20 : 15).append(";");
        }
        GridHouse x = Check.house(t.toString());
        Check.is("islands", x.count(11), 6);
        int cost = 0;
        for (int m = 0; m < 6; m++) {
            int p = m < 2 ? 20 : 15;
            cost += 9 * m + (p - 9) * (m + 1);
            Check.makes("sets", x, x.sets(m), 1, p + "/1");
        }
        Check.makes("cost", x, x.cost(), 1, cost + "/1");
        Check.makes("at the machine there is more", x, x.price(10), 1, "6/1");
        Check.refuses("behind three full lines there is none", Check.STATE, () -> x.price(11));
        Check.refuses("nor at a machine that gives all", Check.STATE, () -> x.price(0));
        x.set(2, 19, 3, 4);
        Check.is("island 1 has l1, l7, l13, l19", x.dispatch(), 0);
        x.set(2, 19, 3, 5);
        x.set(4, 5, 0, 16);
        Check.is("16 over three lines of 5", x.dispatch(), 0);
    }

    private static void manyMachines() {
        Check.sentence("MACHINES (6): all within their bounds, in the order of what they cost");
        StringBuilder t = new StringBuilder("bar a;");
        for (int m = 0; m < 6; m++) {
            t.append("machine g").append(m).append(" a 1 1 1 10 ").append(6 - m);
            t.append(" 5 ").append(16 - m).append(" 1;");
        }
        GridHouse x = Check.house(t + "load p a 6;");
        x.set(4, 0, 0, 5);
        Check.is("below all LO", x.dispatch(), 0);
        // each load with the machine that gives the last of it: 4 more each, the last one first; then 5 each
        for (int load = 6; load <= 60; load++) {
            GridHouse y = Check.house(t + "load p a " + load + ";");
            for (int m = 0; m < 6; m++) {
                int low = Math.max(0, Math.min(4, load - 6 - 4 * (5 - m)));
                int high = Math.max(0, Math.min(5, load - 30 - 5 * (5 - m)));
                Check.makes("sets with " + load, y, y.sets(m), 1, 1 + low + high + "/1");
            }
        }
        x.set(4, 0, 0, 61);
        Check.is("above all HI", x.dispatch(), 0);
    }
}
