/** Promises 1 to 13: texts, objects and their fields, by answers worked out by hand. */
public final class TextPromisesTest {
    static final String NET = "bar a; bar b; bar c; switch s a b closed 60; switch t b c open 70; line l b c 2 6 100;"
            + "machine g a 2 3 5 200 3 100 7 1; load p c 50;";

    private TextPromisesTest() {
    }

    public static void main(String[] args) {
        made();
        feeds();
        ends();
        nets();
        netReplaces();
        conditions();
        rules();
        orders();
        finds();
        counts();
        names();
        gets();
        sets();
        setBounds();
        keeps();
        Check.close("TextPromisesTest");
    }

    private static void made() {
        Check.promise(1);
        GridHouse x = new GridHouse();
        for (int sort = 0; sort <= 15; sort++) {
            Check.is("count " + sort, x.count(sort), 0);
        }
        Check.inHand("a new object", x, "0/1");
        Check.is("NONE", GridHouse.NONE, -1);
        Check.is("clearShort", x.clearShort(), false);
        Check.is("into", x.into(1), 0);
        Check.is("worst", x.worst(), -1);
        Check.is("screen", x.screen(), 0);
        Check.refuses("begin", Check.STATE, () -> x.begin());
        Check.refuses("run", Check.STATE, () -> x.run(0));
        Check.refuses("run", Check.STATE, () -> x.run(-1));
        Check.is("opened", x.opened(0, 0), -1);
        Check.is("ordered", x.ordered(0), false);
        Check.is("dispatch", x.dispatch(), 1);
        Check.makes("cost", x, x.cost(), 0, "0/1");
        Check.is("barred", x.barred(0), -1);
        Check.is("barred", x.barred(1), -1);
        Check.is("carry", x.carry(), 0);
        Check.is("restore", x.restore(3), 0);
        Check.is("step", x.step(0), -1);
        Check.is("backup", x.backup(7), 100000);
        Check.refuses("back", Check.STATE, () -> x.back(0));
        Check.is("find with an empty tape", x.find(), -1);
        Check.is("net with an empty tape", x.net(), 0);
        Check.is("rules with an empty tape", x.rules(), 0);
        Check.is("order with an empty tape", x.order(), 0);
    }

    private static void feeds() {
        Check.promise(2);
        GridHouse x = new GridHouse();
        // "bar a;bar bb;bar c ;": each number's highest byte first
        Check.is("feed", x.feed(0x62617220, 0x613b6261, 0x72206262, 0x3b626172, 0x2063203b), 20);
        Check.is("net", x.net(), 3);
        Check.is("name", x.name(0, 1, 1), 'b');
        for (int i = 1; i <= 200; i++) {
            Check.is("feed", x.feed(i, i, i, i, i), 20 * i);
        }
        Check.refuses("feed", Check.STATE, () -> x.feed(0, 0, 0, 0, 0));
        Check.is("count", x.count(9), 4000);
        x.end(3981);
        Check.refuses("feed", Check.STATE, () -> x.feed(0, 0, 0, 0, 0));
        x.end(3980);
        Check.is("feed", x.feed(-1, -1, -1, -1, -1), 4000);
    }

    private static void ends() {
        Check.promise(3);
        GridHouse x = new GridHouse();
        Check.refuses("end", Check.ARGUMENT, () -> x.end(1));
        x.end(0);
        x.feed(0x62617220, 0x613b6261, 0x72206262, 0x3b626172, 0x2063203b);
        Check.refuses("end", Check.ARGUMENT, () -> x.end(-1));
        Check.refuses("end", Check.ARGUMENT, () -> x.end(21));
        Check.is("count", x.count(9), 20);
        x.end(20);
        x.end(6);
        Check.is("count", x.count(9), 6);
        Check.refuses("end", Check.ARGUMENT, () -> x.end(7));
        Check.is("net", x.net(), 1);
        Check.is("count", x.count(9), 0);
    }

    private static void fault(String text, int place) {
        GridHouse x = new GridHouse();
        Check.is("net " + text, Check.net(x, text), -1 - place);
        Check.is("the tape behind net " + text, x.count(9), 0);
    }

    private static void good(String text, int bars) {
        Check.is("net " + text, Check.net(new GridHouse(), text), bars);
    }

    private static String many(String head, String tail, int n) {
        StringBuilder t = new StringBuilder();
        for (int i = 0; i < n; i++) {
            t.append(head).append(i).append(tail);
        }
        return t.toString();
    }

    private static void nets() {
        Check.promise(4);
        good("", 0);
        good("\n \n", 0);
        good("bar a;bar\nb ; bar c;", 3);
        good("bar abcdefgh;", 1);
        fault("bar abcdefghi;", 4);
        fault("bar", 3);
        fault("bar ", 4);
        fault("bar a", 5);
        fault("bar a  bar b;", 7);
        fault("barr a;", 0);
        fault("open a;", 0);
        fault("is a;", 0);
        fault("; bar a;", 0);
        fault("bar 1a;", 4);
        fault("bar A;", 4);
        fault("bar a\t;", 5);
        fault("\tbar a;", 0);
        fault("bar is;", 4);
        fault("bar untag;", 4);
        good("bar of;", 1);
        good("bar unknown;", 1);
        fault("bar a;bar a;", 10);
        fault("bar a;;", 6);
        fault("bar a;bar b;switch s a c open 1;", 23);
        fault("bar a;bar b;switch s a a open 1;", 23);
        fault("bar a;bar b;switch a a b open 1;", 19);
        fault("bar a;bar b;switch s a b shut 1;", 25);
        fault("bar a;bar b;switch s a b is 1;", 25);
        fault("bar a;bar b;switch s a b open 0;", 30);
        good("bar a;bar b;switch s a b open 999999;", 2);
        good("bar a;bar b;switch s a b open 000001;", 2);
        fault("bar a;bar b;switch s a b open 0000001;", 30);
        fault("bar a;bar b;switch s a b open 1000000;", 30);
        fault("bar a;bar b;switch s a b open 1a;", 30);
        fault("bar a;bar b;switch s a b open -1;", 30);
        fault("bar a;bar b;switch s a s open 1;", 23);
        String two = "bar a;bar b;";
        good(two + "line l a b 1 1 0;", 2);
        good(two + "line l a b 99 299 9999;", 2);
        fault(two + "line l a b 0 1 0;", 23);
        fault(two + "line l a b 100 1 0;", 23);
        fault(two + "line l a b 1 0 0;", 25);
        fault(two + "line l a b 1 300 0;", 25);
        fault(two + "line l a b 1 1 10000;", 27);
        fault(two + "line l b b 1 1 1;", 21);
        good(two + "machine g a 1 0 0 0 0 0 0 0;", 2);
        good(two + "machine g a 99 299 9999 9999 999 9999 999 9;", 2);
        fault(two + "machine g a 0 0 0 0 0 0 0 0;", 24);
        fault(two + "machine g a 1 300 0 0 0 0 0 0;", 26);
        fault(two + "machine g a 1 0 10000 0 0 0 0 0;", 28);
        fault(two + "machine g a 1 0 5 4 0 0 0 0;", 30);
        fault(two + "machine g a 1 0 5 10000 0 0 0 0;", 30);
        fault(two + "machine g a 1 0 5 5 1000 0 0 0;", 32);
        fault(two + "machine g a 1 0 5 5 3 10000 3 0;", 34);
        fault(two + "machine g a 1 0 5 5 3 0 2 0;", 36);
        fault(two + "machine g a 1 0 5 5 3 0 1000 0;", 36);
        fault(two + "machine g a 1 0 5 5 3 0 3 10;", 38);
        fault(two + "machine g c 1 0 5 5 3 0 3 0;", 22);
        good(two + "load p a 9999;load q a 0;", 2);
        fault(two + "load p a 10000;", 21);
        fault(two + "load p 1 1;", 19);
        fault(two + "load p a", 20);
        fault(two + "load p a 1 1;", 23);
        good(many("bar b", ";", 16), 16);
        int length = many("bar b", ";", 16).length();
        fault(many("bar b", ";", 16) + "bar x;", length);
        fault(many("bar b", ";", 16) + "bar", length);
        fault(many("bar b", ";", 16) + "bark", length);
        good(two + many("switch s", " a b open 1;", 24), 2);
        fault(two + many("switch s", " a b open 1;", 25), (two + many("switch s", " a b open 1;", 24)).length());
        good(two + many("line l", " a b 1 1 1;", 20), 2);
        fault(two + many("line l", " a b 1 1 1;", 21), (two + many("line l", " a b 1 1 1;", 20)).length());
        good(two + many("machine g", " a 1 1 1 1 1 1 1 1;", 6), 2);
        fault(two + many("machine g", " a 1 1 1 1 1 1 1 1;", 7),
                (two + many("machine g", " a 1 1 1 1 1 1 1 1;", 6)).length());
        good(two + many("load p", " a 1;", 12), 2);
        fault(two + many("load p", " a 1;", 13), (two + many("load p", " a 1;", 12)).length());
    }

    private static void netReplaces() {
        Check.promise(4);
        GridHouse x = Check.house(NET);
        x.meter(0, 0, 1, 1);
        x.relay(0, 0, 0, 0);
        x.row(0, 0, 0);
        x.fails(0, true);
        x.backup(3);
        x.keep(1);
        x.shortAt(0, 2, 0);
        Check.rules(x, "no tag if lost is 1;");
        Check.order(x, "open s;");
        Check.is("restore", x.restore(1), 0);
        x.set(4, 0, 0, 0);
        Check.makes("angle", x, x.angle(2), 0, "0/1");
        Check.makes("gives", x, x.gives(0), 0, "0/1");
        x.set(4, 0, 0, 50);
        Check.makes("gives", x, x.gives(0), 1, "50/1");
        Check.is("begin", x.begin(), 1);
        Check.is("net with a fault", Check.net(x, "bar x; bar"), -11);
        int[] due = {3, 2, 1, 1, 1, 1, 1, 1, 1, 0};
        for (int sort = 0; sort < 10; sort++) {
            Check.is("behind a fault, count " + sort, x.count(sort), due[sort]);
        }
        Check.is("the run goes on", x.run(0), 1);
        x.back(1);
        Check.is("net", Check.net(x, NET), 3);
        due = new int[] {3, 2, 1, 1, 1, 0, 0, 0, 0, 0};
        for (int sort = 0; sort < 10; sort++) {
            Check.is("behind net, count " + sort, x.count(sort), due[sort]);
        }
        Check.inHand("net", x, "50/1");
        Check.refuses("run", Check.STATE, () -> x.run(5));
        Check.refuses("back", Check.STATE, () -> x.back(1));
        Check.is("clearShort", x.clearShort(), false);
        Check.is("fails", x.fails(0, false), false);
        Check.is("backup", x.backup(0), 100000);
        x.set(1, 0, 0, 0);
        Check.is("a net of its own", Check.net(x, "bar z;"), 1);
        Check.is("count 15", x.count(15), 0);
        Check.is("a text without words", Check.net(x, " "), 0);
        Check.is("count 0", x.count(0), 0);
    }

    private static GridHouse forRules() {
        return Check.house("bar a;bar b;bar c;switch s a b open 1;switch t b c closed 1;line l a c 1 1 1;"
                + "machine g a 1 1 0 9 1 1 1 1;load p c 3;");
    }

    private static void rule(String text, int due) {
        GridHouse x = forRules();
        Check.is("rules before", Check.rules(x, "no open if lost is 7;no tag if lost is 7;"), 2);
        Check.is("rules " + text, Check.rules(x, text), due);
        Check.is("the tape behind rules " + text, x.count(9), 0);
        Check.is("count 7 behind rules " + text, x.count(7), due < 0 ? 2 : due);
    }

    private static String nested(int depth) {
        StringBuilder t = new StringBuilder("no open if ");
        for (int i = 0; i < depth; i++) {
            t.append("(");
        }
        t.append("lost is 1");
        for (int i = 0; i < depth; i++) {
            t.append(")");
        }
        return t.append(";").toString();
    }

    private static void rules() {
        Check.promise(5);
        rule("", 0);
        rule("no open if closed it;", 1);
        rule("no open if closed it or closed s and not closed t;no tag if then lost above 5;", 2);
        rule("no free if earthed it and live it and joined it a;", 1);
        rule("no untag if joined from to or live from or earthed to;", 1);
        rule("no", -3);
        rule("no move if lost is 1;", -4);
        rule("yes open if lost is 1;", -1);
        rule("no open when lost is 1;", -9);
        rule("no open if ;", -12);
        rule("no open if lost is 1", -21);
        rule("no open if closed from;", -19);
        rule("no open if closed a;", -19);
        rule("no earth if closed it;", -20);
        rule("no earth if tagged s and live it;", 1);
        rule("no earth if live from;", -18);
        rule("no earth if live to;", -18);
        rule("no open if tagged to;", -19);
        rule("no untag if live to;", 1);
        rule("no open if live it;", -17);
        rule("no open if live s;", -17);
        rule("no open if live l;", -17);
        rule("no open if joined a;", -20);
        rule("no open if lost was 1;", -17);
        rule("no open if lost;", -16);
        rule("no open if lost and lost is 1;", -17);
        rule("no open if lost is;", -19);
        rule("no open if lost above or lost is 1;", -23);
        rule("no open if closed;", -18);
        rule("no open if joined a;", -20);
        rule("no open if live and lost is 1;", -17);
        rule("no open if not;", -15);
        rule("no open if then;", -16);
        rule("no open if lost is x;", -20);
        rule("no open if lost is 0999999;", -20);
        rule("no open if lost is 999999;", 1);
        rule("no open if over below 0 and loops above 3;", 1);
        rule("no open if not not lost is 1;", -16);
        rule("no open if then (lost is 1);", -17);
        rule("no open if not (not lost is 1);", 1);
        rule("no open if then not lost is 1;", -17);
        rule("no open if not then lost is 1;", 1);
        rule("no open if (lost is 1;", -22);
        rule("no open if lost is 1);", -21);
        rule("no open if () or lost is 1;", -13);
        rule("no open if lost is 1 or;", -24);
        rule("no open if lost is 1 and or lost is 1;", -26);
        rule("no open if lost is 1 lost is 1;", -22);
        rule(nested(8), 1);
        rule(nested(9), -1 - 19);
        StringBuilder t = new StringBuilder();
        for (int i = 0; i < 12; i++) {
            t.append("no tag if lost is 1;");
        }
        rule(t.toString(), 12);
        rule(t + "no", -1 - t.length());
        rule(t + "x", -1 - t.length());
    }

    /** Whether closing s is barred by a rule, on a net in which s closes a loop. */
    private static void condition(String text, boolean due) {
        GridHouse x = forRules();
        Check.is("rules", Check.rules(x, "no close if " + text + ";"), 1);
        Check.order(x, "close s;");
        Check.is("barred by " + text, x.barred(0), due ? 0 : -1);
        Check.is("the rule of " + text, x.barred(1), due ? 0 : -1);
    }

    private static void conditions() {
        Check.promise(47);
        condition("closed it", false);
        condition("then closed it", true);
        condition("not closed it", true);
        condition("closed t", true);
        condition("tagged it", false);
        condition("joined from to", false);
        condition("then joined from to", true);
        condition("joined b c", true);
        condition("live from and live to", true);
        condition("live a", true);
        condition("earthed from or earthed to", false);
        condition("lost is 0", true);
        condition("lost above 0", false);
        condition("over is 1", true);
        condition("over below 2", true);
        condition("then over is 0", true);
        condition("over above 1", false);
        condition("loops is 0", true);
        condition("then loops is 1", true);
        condition("then loops above 1", false);
        condition("closed it and closed it or closed t", true);
        condition("closed t or closed it and closed it", true);
        condition("(closed t or closed it) and closed it", false);
        condition("not (closed t or closed it)", false);
        condition("not closed it and not (closed it and closed t)", true);
        condition("not (not closed it) or not closed t", false);
        condition("((closed it or (closed t)))", true);
    }

    private static void orders() {
        Check.promise(6);
        GridHouse x = forRules();
        Check.is("order", Check.order(x, "open s;close t;earth a;free b;tag s;untag t;"), 6);
        Check.is("order", x.count(8), 6);
        Check.is("a fault", Check.order(x, "open s; close a;"), -15);
        Check.is("order stays", x.count(8), 6);
        Check.is("a fault", Check.order(x, "earth s;"), -7);
        Check.is("a fault", Check.order(x, "open it;"), -6);
        Check.is("a fault", Check.order(x, "shut s;"), -1);
        Check.is("a fault", Check.order(x, "open s"), -7);
        Check.is("a fault", Check.order(x, "open s,"), -7);
        Check.is("the tape", x.count(9), 0);
        StringBuilder t = new StringBuilder();
        for (int i = 0; i < 24; i++) {
            t.append("tag s;");
        }
        Check.is("24 steps", Check.order(x, t.toString()), 24);
        Check.is("25 steps", Check.order(x, t + "tag s;"), -1 - t.length());
        Check.is("25 steps", Check.order(x, t + ";"), -1 - t.length());
        Check.is("order", x.count(8), 24);
        Check.is("order", Check.order(x, " "), 0);
        Check.is("order", x.count(8), 0);
    }

    private static void finds() {
        Check.promise(7);
        GridHouse x = Check.house(NET);
        Check.is("find", Check.find(x, "a"), 0);
        Check.is("find", Check.find(x, "c"), 2);
        Check.is("find", Check.find(x, "t"), 101);
        Check.is("find", Check.find(x, "l"), 200);
        Check.is("find", Check.find(x, "g"), 300);
        Check.is("find", Check.find(x, "p"), 400);
        Check.is("find", Check.find(x, "q"), -1);
        Check.is("find", Check.find(x, "a "), -1);
        Check.is("find", Check.find(x, " a"), -1);
        Check.is("find", Check.find(x, "\0a"), -1);
        Check.is("find", Check.find(x, "abcdefghi"), -1);
        Check.is("find", Check.find(x, ""), -1);
        Check.is("the tape", x.count(9), 0);
        Check.net(x, "bar bcdefghi;");
        Check.is("find", Check.find(x, "bcdefghi"), 0);
        Check.is("find", Check.find(x, "abcdefghi"), -1);
    }

    private static void counts() {
        Check.promise(8);
        GridHouse x = Check.house(NET);
        int[] due = {3, 2, 1, 1, 1, 0, 0, 0, 0, 0, 2, 1, 1, 0, 0, 0};
        for (int sort = 0; sort < due.length; sort++) {
            Check.is("count " + sort, x.count(sort), due[sort]);
        }
        Check.refuses("count", Check.ARGUMENT, () -> x.count(-1));
        Check.refuses("count", Check.ARGUMENT, () -> x.count(16));
        x.set(2, 0, 3, 49);
        Check.is("OVER", x.count(14), 1);
        x.set(2, 0, 3, 50);
        Check.is("OVER", x.count(14), 0);
        x.set(3, 0, 9, 0);
        Check.is("STUCK", x.count(13), 1);
        Check.is("LOST", x.count(15), 0);
        x.set(2, 0, 0, 0);
        Check.is("nodes", x.count(10), 2);
        Check.is("islands", x.count(11), 2);
        Check.is("LIVE", x.count(12), 1);
        Check.is("STUCK", x.count(13), 1);
        Check.is("LOST", x.count(15), 50);
        x.set(1, 0, 0, 2);
        Check.is("nodes", x.count(10), 3);
        x.feed(1, 2, 3, 4, 5);
        Check.is("bytes", x.count(9), 20);
    }

    private static void names() {
        Check.promise(9);
        GridHouse x = Check.house("bar ab1;bar b;load zz9 b 1;");
        Check.is("name", x.name(0, 0, 0), 'a');
        Check.is("name", x.name(0, 0, 1), 'b');
        Check.is("name", x.name(0, 0, 2), '1');
        Check.is("name", x.name(0, 0, 3), -1);
        Check.is("name", x.name(0, 0, -1), -1);
        Check.is("name", x.name(0, 1, 0), 'b');
        Check.is("name", x.name(0, 2, 0), -1);
        Check.is("name", x.name(4, 0, 2), '9');
        Check.is("name", x.name(5, 0, 0), -1);
        Check.is("name", x.name(-1, 0, 0), -1);
        Check.is("name", x.name(1, 0, 0), -1);
        Check.is("name", x.name(0, -1, 0), -1);
        Check.is("name", x.name(0, 0, 1000), -1);
        Check.is("name", x.name(0, 0, Integer.MAX_VALUE), -1);
    }

    private static void gets() {
        Check.promise(10);
        GridHouse x = Check.house(NET);
        int[][] due = {{0}, {1, 60, 0, 0, 1}, {1, 2, 6, 100, 1, 2}, {1, 5, 2, 3, 5, 200, 3, 100, 7, 1, 0}, {50, 2}};
        for (int sort = 0; sort < 5; sort++) {
            for (int field = 0; field < due[sort].length; field++) {
                Check.is("get " + sort + " 0 " + field, x.get(sort, 0, field), due[sort][field]);
            }
            int s = sort;
            Check.refuses("get", Check.ARGUMENT, () -> x.get(s, 0, -1));
            Check.refuses("get", Check.ARGUMENT, () -> x.get(s, 0, due[s].length));
            Check.refuses("get", Check.INDEX, () -> x.get(s, -1, 0));
            Check.refuses("get", Check.INDEX, () -> x.get(s, x.count(s), 99));
        }
        Check.is("get", x.get(1, 1, 4), 2);
        Check.is("get", x.get(1, 1, 0), 0);
        Check.refuses("get", Check.INDEX, () -> x.get(5, 0, 0));
        Check.refuses("get", Check.INDEX, () -> x.get(-1, 0, 99));
    }

    private static void sets() {
        Check.promise(11);
        GridHouse x = Check.house(NET);
        Check.is("set", x.set(1, 0, 0, 2), 1);
        Check.is("set", x.set(1, 0, 0, 1), 2);
        Check.is("set", x.set(3, 0, 1, 9999), 5);
        Check.is("get", x.get(3, 0, 1), 9999);
        Check.is("set", x.set(4, 0, 0, 7), 50);
        Check.makes("gives", x, x.gives(0), 1, "7/1");
        Check.refuses("no such sort", Check.INDEX, () -> x.set(5, 0, 0, 0));
        Check.refuses("no such object", Check.INDEX, () -> x.set(3, 1, 99, -5));
        Check.refuses("a bar's field", Check.ARGUMENT, () -> x.set(0, 0, 0, 1));
        Check.refuses("TAGGED", Check.ARGUMENT, () -> x.set(1, 0, 2, 1));
        Check.refuses("an end", Check.ARGUMENT, () -> x.set(2, 0, 4, 0));
        Check.refuses("a machine's bar", Check.ARGUMENT, () -> x.set(3, 0, 10, 0));
        Check.refuses("a load's bar", Check.ARGUMENT, () -> x.set(4, 0, 1, 0));
        Check.refuses("no field", Check.ARGUMENT, () -> x.set(4, 0, -1, 0));
        x.shortAt(0, 0, 0);
        x.begin();
        Check.refuses("a number", Check.ARGUMENT, () -> x.set(1, 0, 0, 3));
        Check.is("the run is there", x.run(5), 0);
        Check.is("set", x.set(1, 0, 0, 1), 1);
        Check.refuses("the run ended", Check.STATE, () -> x.run(5));
    }

    private static void setBounds() {
        Check.promise(11);
        int[][] bounds = {{1, 0, 0, 2}, {1, 1, 1, 999999}, {2, 0, 0, 1}, {2, 1, 1, 99}, {2, 2, 1, 299}, {2, 3, 0, 9999},
            {3, 0, 0, 1}, {3, 1, 0, 9999}, {3, 2, 1, 99}, {3, 3, 0, 299}, {3, 4, 0, 200}, {3, 5, 5, 9999}, {3, 6, 0, 7},
            {3, 7, 0, 9999}, {3, 8, 3, 999}, {3, 9, 0, 9}, {4, 0, 0, 9999}};
        for (int[] b : bounds) {
            for (int side = 2; side <= 3; side++) {
                GridHouse x = Check.house(NET);
                int was = x.get(b[0], 0, b[1]);
                int over = b[side] + (side == 2 ? -1 : 1);
                Check.refuses("set " + b[0] + " " + b[1] + " " + over, Check.ARGUMENT, () -> x.set(b[0], 0, b[1], over));
                Check.is("get " + b[0] + " " + b[1], x.get(b[0], 0, b[1]), was);
                Check.is("set " + b[0] + " " + b[1], x.set(b[0], 0, b[1], b[side]), was);
                Check.is("get " + b[0] + " " + b[1], x.get(b[0], 0, b[1]), b[side]);
            }
        }
    }

    private static void keeps() {
        Check.promise(12);
        GridHouse x = Check.house(NET);
        Check.refuses("keep", Check.ARGUMENT, () -> x.keep(-1));
        Check.refuses("keep", Check.ARGUMENT, () -> x.keep(3));
        x.keep(0);
        Check.order(x, "earth c;tag s;open s;");
        Check.is("carry", x.carry(), 3);
        x.set(2, 0, 0, 0);
        x.set(3, 0, 6, 1);
        x.set(4, 0, 0, 9);
        x.keep(2);
        Check.promise(13);
        Check.refuses("back", Check.ARGUMENT, () -> x.back(-1));
        Check.refuses("back", Check.ARGUMENT, () -> x.back(3));
        Check.refuses("back", Check.STATE, () -> x.back(1));
        x.shortAt(0, 0, 0);
        x.begin();
        x.keep(1);
        Check.is("keep leaves the run", x.run(0), 0);
        x.back(0);
        Check.refuses("back ends the run", Check.STATE, () -> x.run(0));
        Check.is("EARTHED", x.get(0, 2, 0), 0);
        Check.is("TAGGED", x.get(1, 0, 2), 0);
        Check.is("STATE", x.get(1, 0, 0), 1);
        Check.is("IN", x.get(2, 0, 0), 1);
        Check.is("C", x.get(3, 0, 6), 3);
        Check.is("MW", x.get(4, 0, 0), 50);
        Check.is("the short stays", x.clearShort(), true);
        x.back(2);
        Check.is("EARTHED", x.get(0, 2, 0), 1);
        Check.is("TAGGED", x.get(1, 0, 2), 1);
        Check.is("STATE", x.get(1, 0, 0), 0);
        Check.is("IN", x.get(2, 0, 0), 0);
        Check.is("C", x.get(3, 0, 6), 1);
        Check.is("MW", x.get(4, 0, 0), 9);
        x.back(0);
        x.set(4, 0, 0, 8);
        x.back(0);
        Check.is("MW", x.get(4, 0, 0), 50);
        Check.is("nodes", x.count(10), 2);
    }
}
