/** Promises 43 to 50: dispatch, orders and bringing load back, by answers worked out by hand. */
public final class DispatchPromisesTest {
    /** g at a is cheap up to 50, h at b dear; the line between them has a limit of 10. */
    private static final String NET = "bar a;bar b;bar c;line l a b 1 1 10;machine g a 1 1 0 100 2 50 4 1;"
            + "machine h b 1 1 0 100 5 100 5 1;load p b 30;load q c 1;";
    /** Of what g gives to c two thirds go over m, of what h gives one third. */
    private static final String RING = "bar a;bar b;bar c;line k a b 1 1 99;line l b c 1 1 99;line m a c 1 1 20;"
            + "machine g a 1 1 0 100 1 100 1 1;machine h b 1 1 0 100 3 100 3 1;load p c 45;";
    /** a has a machine; b and c can be reached over s, t, u; d over v and a line with a limit. */
    private static final String DARK = "bar a;bar b;bar c;bar d;bar e;switch s a b open 1;switch t b c open 1;"
            + "switch u a c open 1;switch v a e open 1;line l e d 1 1 4;machine g a 1 1 0 99 1 1 1 1;"
            + "load p b 5;load q c 7;load r d 4;";

    private DispatchPromisesTest() {
    }

    public static void main(String[] args) {
        dispatches();
        ties();
        rings();
        none();
        prices();
        barred();
        carries();
        restores();
        limits();
        choices();
        Check.close("DispatchPromisesTest");
    }

    private static void dispatches() {
        Check.promise(43);
        GridHouse x = Check.house(NET);
        Check.is("dispatch", x.dispatch(), 1);
        Check.promise(44);
        Check.makes("cost", x, x.cost(), 1, "120/1");
        Check.promise(45);
        Check.makes("sets", x, x.sets(0), 1, "10/1");
        Check.makes("sets", x, x.sets(1), 1, "20/1");
        Check.refuses("sets", Check.INDEX, () -> x.sets(2));
        Check.refuses("sets", Check.INDEX, () -> x.sets(-1));
        x.set(2, 0, 3, 99);
        Check.makes("sets", x, x.sets(0), 1, "30/1");
        Check.makes("cost", x, x.cost(), 1, "60/1");
        x.set(4, 0, 0, 60);
        Check.makes("dearer above M", x, x.cost(), 1, "140/1");
        Check.makes("sets", x, x.sets(0), 1, "60/1");
        x.set(3, 0, 8, 6);
        Check.makes("then h is cheaper", x, x.sets(0), 1, "50/1");
        Check.makes("cost", x, x.cost(), 1, "150/1");
        x.set(3, 0, 4, 70);
        x.set(4, 0, 0, 75);
        Check.makes("LO above M", x, x.cost(), 1, "245/1");
        Check.makes("sets", x, x.sets(1), 1, "5/1");
        x.set(3, 1, 0, 0);
        Check.makes("not ON", x, x.sets(1), 0, "0/1");
        Check.makes("sets", x, x.sets(0), 1, "75/1");
        Check.makes("cost", x, x.cost(), 1, "250/1");
        x.set(3, 0, 0, 0);
        Check.is("no machine is ON", x.dispatch(), 1);
        Check.makes("cost", x, x.cost(), 0, "0/1");
    }

    private static void ties() {
        Check.promise(45);
        GridHouse x = Check.house("bar a;machine g a 1 1 0 9 3 5 3 1;machine h a 1 1 0 9 3 9 9 1;"
                + "machine i a 1 1 0 4 3 2 3 1;load p a 7;");
        Check.makes("the first gives least", x, x.sets(0), 0, "0/1");
        Check.makes("of these the second", x, x.sets(1), 1, "3/1");
        Check.makes("sets", x, x.sets(2), 1, "4/1");
        x.set(4, 0, 0, 20);
        Check.makes("sets", x, x.sets(0), 1, "7/1");
        Check.makes("sets", x, x.sets(1), 1, "9/1");
        Check.makes("cost", x, x.cost(), 1, "60/1");
    }

    private static void rings() {
        Check.promise(43);
        GridHouse x = Check.house(RING);
        // 2/3 g + 1/3 (45 - g) is 20
        Check.makes("sets", x, x.sets(0), 1, "15/1");
        Check.makes("sets", x, x.sets(1), 1, "30/1");
        Check.makes("cost", x, x.cost(), 1, "105/1");
        Check.promise(46);
        // 1 MW more at c: g 1 less, h 2 more
        Check.makes("price", x, x.price(2), 1, "5/1");
        Check.makes("price", x, x.price(1), 1, "3/1");
        Check.makes("price", x, x.price(0), 1, "1/1");
        x.set(2, 2, 1, 2);
        // now 1/2 of g and 1/4 of h
        Check.makes("sets", x, x.sets(0), 1, "35/1");
        x.set(2, 2, 3, 21);
        Check.makes("sets", x, x.sets(0), 1, "39/1");
        x.set(2, 2, 1, 3);
        Check.makes("sets", x, x.sets(0), 1, "45/1");
        x.set(2, 2, 3, 17);
        Check.makes("sets", x, x.sets(0), 1, "40/1");
        x.set(2, 1, 1, 2);
        // 1/2 of g and 1/3 of h
        Check.makes("cost", x, x.cost(), 1, "111/1");
        x.set(2, 1, 1, 1);
        x.set(2, 0, 1, 2);
        // 1/2 of g and 1/6 of h
        Check.makes("sets", x, x.sets(0), 1, "57/2");
        Check.makes("sets", x, x.sets(1), 1, "33/2");
        Check.makes("cost", x, x.cost(), 1, "78/1");
        Check.makes("price", x, x.price(2), 1, "4/1");
    }

    private static void none() {
        Check.promise(43);
        GridHouse x = Check.house(NET);
        x.cost();
        x.set(3, 1, 5, 19);
        Check.is("h gives too little", x.dispatch(), 0);
        Check.refuses("cost", Check.STATE, () -> x.cost());
        Check.refuses("sets", Check.STATE, () -> x.sets(0));
        Check.refuses("sets", Check.INDEX, () -> x.sets(2));
        Check.refuses("price", Check.STATE, () -> x.price(0));
        Check.refuses("price", Check.INDEX, () -> x.price(3));
        Check.inHand("a call that throws", x, "120/1");
        x.set(3, 1, 5, 20);
        Check.is("just enough", x.dispatch(), 1);
        x.set(3, 0, 4, 11);
        Check.is("g gives too much for the line", x.dispatch(), 0);
        x.set(2, 0, 3, 11);
        Check.is("dispatch", x.dispatch(), 1);
        x.set(4, 0, 0, 10);
        Check.is("less load than LO", x.dispatch(), 0);
        x.set(2, 0, 0, 0);
        Check.is("the island of g has no load", x.dispatch(), 0);
        x.set(3, 0, 4, 0);
        Check.is("dispatch", x.dispatch(), 1);
    }

    private static void prices() {
        Check.promise(46);
        GridHouse x = Check.house(NET);
        Check.makes("price", x, x.price(0), 1, "2/1");
        Check.makes("price", x, x.price(1), 1, "5/1");
        Check.refuses("a dead island", Check.STATE, () -> x.price(2));
        Check.refuses("price", Check.INDEX, () -> x.price(3));
        Check.makes("the dispatch stays", x, x.sets(0), 1, "10/1");
        x.set(3, 1, 5, 20);
        Check.refuses("none with 1 MW more", Check.STATE, () -> x.price(1));
        Check.makes("price", x, x.price(0), 1, "2/1");
        x.set(2, 0, 3, 60);
        x.set(4, 0, 0, 50);
        Check.makes("above M", x, x.price(1), 1, "4/1");
        x.set(3, 0, 6, 0);
        x.set(4, 0, 0, 40);
        Check.makes("for nothing", x, x.price(1), 0, "0/1");
        Check.makes("cost", x, x.cost(), 0, "0/1");
        GridHouse y = Check.house(RING);
        y.set(4, 0, 0, 40);
        y.set(3, 0, 6, 0);
        y.set(3, 0, 8, 0);
        y.set(2, 2, 3, 20);
        Check.makes("sets", y, y.sets(0), 1, "20/1");
        Check.makes("price", y, y.price(2), 1, "6/1");
        GridHouse z = Check.house("bar a;bar b;bar c;line k a b 1 1 9;line l b c 1 1 99;line m a c 1 1 99;"
                + "machine g a 1 1 0 100 1 100 1 1;machine h c 1 1 0 100 4 100 4 1;load p c 60;");
        // k carries a third of what g gives
        Check.makes("sets", z, z.sets(0), 1, "27/1");
        Check.makes("price at b", z, z.price(1), 1, "7/1");
        z.set(2, 0, 3, 99);
        z.set(2, 2, 3, 10);
        Check.makes("sets", z, z.sets(0), 1, "15/1");
        Check.makes("price at b", z, z.price(1), 1, "5/2");
        z.set(2, 2, 3, 99);
        z.set(2, 1, 3, 9);
        Check.makes("sets", z, z.sets(0), 1, "27/1");
        Check.makes("more at b frees l", z, z.price(1), -1, "2/1");
    }

    private static GridHouse ordered(String rules, String order) {
        GridHouse x = Check.house(DARK);
        Check.is("rules", Check.rules(x, rules) >= 0, true);
        Check.is("order", Check.order(x, order) >= 0, true);
        return x;
    }

    private static void barred() {
        Check.promise(47);
        GridHouse x = ordered("no tag if lost above 99;no close if lost is 16;no close if then lost below 12;"
                + "no close if joined from to;no earth if live it;", "open s;");
        Check.is("it changes nothing", x.barred(0), 0);
        Check.is("it changes nothing", x.barred(1), -1);
        Check.order(x, "close s;");
        Check.is("the first rule by which it is", x.barred(0), 0);
        Check.is("the first rule by which it is", x.barred(1), 1);
        Check.order(x, "tag s;untag s;earth b;earth a;");
        Check.is("a is live", x.barred(0), 3);
        Check.is("a is live", x.barred(1), 4);
        x.set(1, 2, 0, 1);
        Check.order(x, "tag s;close s;");
        Check.is("9 to 4", x.barred(0), 1);
        Check.is("9 to 4", x.barred(1), 2);
        Check.is("the net stays", x.get(1, 0, 2), 0);
        Check.rules(x, "no close if joined from to;");
        Check.is("other rules", x.barred(0), -1);
        Check.is("other rules", x.barred(1), -1);
        Check.order(x, "close s;close t;tag t;");
        Check.is("the net that the steps before leave", x.barred(0), 1);
        Check.is("the net that the steps before leave", x.barred(1), 0);
        Check.order(x, "");
        Check.is("no steps", x.barred(0), -1);
        Check.refuses("barred", Check.ARGUMENT, () -> x.barred(2));
        Check.refuses("barred", Check.ARGUMENT, () -> x.barred(-1));
        x.set(1, 0, 0, 2);
        Check.order(x, "open s;");
        Check.is("unknown is not open", x.barred(0), -1);
        Check.order(x, "close s;");
        Check.is("unknown is not closed", x.barred(0), -1);
        // over: 100 with an island STUCK
        GridHouse y = ordered("no close if then over is 100;", "close s;");
        y.set(3, 0, 9, 0);
        Check.is("STUCK behind it", y.barred(0), 0);
        y.set(4, 0, 0, 0);
        Check.is("balanced behind it", y.barred(0), -1);
    }

    private static void carries() {
        Check.promise(48);
        GridHouse x = ordered("no close if tagged it;", "earth b;tag s;close t;close s;free b;");
        Check.is("carry", x.carry(), 3);
        Check.is("EARTHED", x.get(0, 1, 0), 1);
        Check.is("TAGGED", x.get(1, 0, 2), 1);
        Check.is("STATE", x.get(1, 1, 0), 1);
        Check.is("barred", x.get(1, 0, 0), 0);
        Check.is("the order stays", x.count(8), 5);
        Check.is("earth b changes nothing now", x.carry(), 0);
        Check.order(x, "untag s;free b;open t;close s;");
        Check.is("carry", x.carry(), 4);
        Check.is("EARTHED", x.get(0, 1, 0), 0);
        Check.is("TAGGED", x.get(1, 0, 2), 0);
        Check.is("STATE", x.get(1, 1, 0), 0);
        Check.is("STATE", x.get(1, 0, 0), 1);
        Check.is("LOST", x.count(15), 11);
        x.shortAt(0, 0, 0);
        x.begin();
        Check.is("none is done", x.carry(), 0);
        Check.is("the run goes on", x.run(1), 0);
        Check.order(x, "tag u;");
        Check.is("one is done", x.carry(), 1);
        Check.refuses("the run ended", Check.STATE, () -> x.run(1));
    }

    private static void found(GridHouse x, int n, int... due) {
        Check.promise(49);
        Check.is("restore " + n, x.restore(n), due.length);
        Check.promise(50);
        for (int k = -1; k <= 3; k++) {
            Check.is("step " + k, x.step(k), k >= 0 && k < due.length ? due[k] : -1);
        }
    }

    private static void restores() {
        GridHouse x = Check.house(DARK);
        found(x, 1, 2);
        found(x, 2, 0, 1);
        found(x, 3, 0, 1, 3);
        Check.is("the net stays", x.count(15), 16);
        Check.promise(49);
        Check.refuses("restore", Check.ARGUMENT, () -> x.restore(0));
        Check.refuses("restore", Check.ARGUMENT, () -> x.restore(4));
        Check.is("the latest stays", x.step(2), 3);
        x.set(2, 0, 3, 3);
        found(x, 3, 0, 1);
        x.set(2, 0, 3, 4);
        Check.order(x, "tag t;");
        x.carry();
        found(x, 3, 0, 2, 3);
        Check.order(x, "tag s;");
        x.carry();
        found(x, 3, 2, 3);
        x.set(1, 3, 0, 2);
        found(x, 3, 2);
        Check.rules(x, "no close if live from;");
        found(x, 3);
        Check.rules(x, "no close if live to or live from and lost is 16;");
        found(x, 3);
        x.set(1, 3, 0, 1);
        found(x, 3, 2);
        Check.is("net", Check.net(x, "bar"), -4);
        Check.is("the latest stays", x.step(0), 2);
        Check.net(x, "bar a;");
        Check.is("none since net()", x.step(0), -1);
    }

    private static void limits() {
        Check.promise(49);
        // already OVER: no row is better unless it ends that
        GridHouse x = Check.house("bar a;bar b;bar c;switch s a b open 1;switch t b c open 1;line l a b 1 1 3;"
                + "machine g a 1 1 0 99 1 1 1 1;load p b 5;load q c 7;");
        Check.is("OVER", x.count(14), 1);
        Check.is("LOST", x.count(15), 7);
        found(x, 1);
        found(x, 2, 0, 1);
        // a STUCK island behind a step stops the row
        x.set(3, 0, 9, 0);
        x.set(3, 0, 1, 12);
        found(x, 2);
        x.set(1, 0, 0, 1);
        found(x, 1, 1);
        // rules are asked of the net ahead of each step
        GridHouse y = Check.house(DARK);
        Check.rules(y, "no close if lost is 11;");
        found(y, 3, 1, 0, 3);
        Check.rules(y, "no close if lost is 16 and not joined b b;");
        found(y, 3, 0, 1, 3);
        Check.rules(y, "no close if then loops above 0;no close if closed s;");
        found(y, 3, 1, 2, 3);
    }

    private static void choices() {
        Check.promise(49);
        // nine open switches: only the first eight are tried; two of them do alike
        StringBuilder t = new StringBuilder("bar a;bar b;bar c;");
        for (int i = 0; i < 7; i++) {
            t.append("switch s").append(i).append(" a b open 1;");
        }
        t.append("switch s7 c b open 1;switch s8 a c open 1;machine g a 1 1 0 9 1 1 1 1;load p c 3;");
        GridHouse x = Check.house(t.toString());
        found(x, 1);
        found(x, 3, 0, 7);
        Check.order(x, "tag s0;");
        x.carry();
        found(x, 3, 8);
        x.set(1, 8, 0, 1);
        found(x, 3);
        x.set(1, 8, 0, 2);
        found(x, 2, 1, 7);
    }
}
