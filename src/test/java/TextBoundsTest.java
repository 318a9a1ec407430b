/** Each boundary that the document names for nets' texts, objects and their fields: Terms and promises 1 to 14. */
public final class TextBoundsTest {
    private static final String[] KEYS = ("bar switch line machine load open closed no if and or not then close "
            + "earth free tag untag it from to tagged live earthed joined lost over loops above below is").split(" ");
    private static final String TWO = "bar a;bar b;";
    private static final String[] SORTS = {"bar ", "switch ", "line ", "machine ", "load "};
    private static final String[] TAILS = {";", " a b open 1;", " a b 1 1 1;", " a 1 1 1 1 1 1 1 1;", " a 1;"};
    private static final int[] MOST = {16, 24, 20, 6, 12};

    private TextBoundsTest() {
    }

    public static void main(String[] args) {
        sorts();
        allSorts();
        places();
        bytes();
        words();
        numbers();
        names();
        alike();
        bars();
        states();
        numbersByPlace();
        byOneAnother();
        ends();
        atFirst();
        netStays();
        netGoes();
        oldNames();
        feeds();
        cuts();
        finds();
        counts();
        namesBytes();
        sets();
        onlyOne();
        keeps();
        nodes();
        calls();
        Check.close("TextBoundsTest");
    }

    private static void good(String text, int bars) {
        Check.is("net " + text, Check.net(new GridHouse(), text), bars);
    }

    private static void fault(String text, int place) {
        Check.is("net " + text, Check.net(new GridHouse(), text), -1 - place);
    }

    private static String many(int sort, int n) {
        StringBuilder t = new StringBuilder(sort == 0 ? "" : TWO);
        for (int i = 0; i < n; i++) {
            t.append(SORTS[sort]).append("n").append(i).append(TAILS[sort]);
        }
        return t.toString();
    }

    private static void sorts() {
        Check.sentence("BARS (16 at most), SWITCHES (24), LINES (20), MACHINES (6), LOADS (12)");
        for (int sort = 0; sort < 5; sort++) {
            String all = many(sort, MOST[sort]);
            GridHouse x = Check.house(all);
            Check.is("count " + sort, x.count(sort), MOST[sort]);
            Check.is("one more", Check.net(x, many(sort, MOST[sort] + 1)), -1 - all.length());
            Check.is("all stay", x.count(sort), MOST[sort]);
            Check.sentence("of one object too many: its statement's first word");
            String head = all + "\n  ";
            fault(head + SORTS[sort], head.length());
            fault(head + SORTS[sort] + "; ;", head.length());
            fault(head + SORTS[sort] + "n0" + TAILS[sort], head.length());
            fault(all + SORTS[sort] + "x" + TAILS[sort] + "bar", all.length());
        }
    }

    /** As many of all sorts as there can be, in one text. */
    private static void allSorts() {
        Check.sentence("BARS (16 at most), SWITCHES (24), LINES (20), MACHINES (6), LOADS (12)");
        StringBuilder t = new StringBuilder(TWO);
        for (int sort = 0; sort < 5; sort++) {
            for (int i = sort == 0 ? 2 : 0; i < MOST[sort]; i++) {
                t.append(SORTS[sort]).append("bslmo".charAt(sort)).append(i).append("x").append(TAILS[sort]);
            }
        }
        GridHouse x = Check.house(t.toString());
        for (int sort = 0; sort < 5; sort++) {
            Check.is("count " + sort, x.count(sort), MOST[sort]);
            int last = MOST[sort] - 1;
            Check.is("the last one's name", x.name(sort, last, 0), "bslmo".charAt(sort));
            Check.is("the last one's name", x.name(sort, last, 1), ('0' + (last > 9 ? last / 10 : last)));
            Check.is("none behind it", x.name(sort, last + 1, 0), -1);
        }
        x.keep(2);
        x.set(4, 11, 0, 7);
        x.set(2, 19, 0, 0);
        x.back(2);
        Check.is("the last one's field", x.get(4, 11, 0), 1);
        Check.is("the last one's field", x.get(2, 19, 0), 1);
    }

    private static void places() {
        Check.sentence("those of a sort are numbered from 0 on as they are told");
        GridHouse x = Check.house("bar z;load q z 5;bar a;line m a z 7 8 9;load p a 6;machine g a 1 1 1 1 1 1 1 1;"
                + "bar b;switch s b a closed 3;line l z b 1 2 3;switch r z b open 4;");
        Check.is("find", Check.find(x, "z"), 0);
        Check.is("find", Check.find(x, "a"), 1);
        Check.is("find", Check.find(x, "b"), 2);
        Check.is("find", Check.find(x, "s"), 100);
        Check.is("find", Check.find(x, "r"), 101);
        Check.is("find", Check.find(x, "m"), 200);
        Check.is("find", Check.find(x, "l"), 201);
        Check.is("find", Check.find(x, "g"), 300);
        Check.is("find", Check.find(x, "q"), 400);
        Check.is("find", Check.find(x, "p"), 401);
        Check.sentence("A SWITCH joins two bars, its ends 0 and 1;"
                + " a LINE goes from a bar (end 0) to another one (end 1)");
        Check.is("end 0", x.get(1, 0, 3), 2);
        Check.is("end 1", x.get(1, 0, 4), 1);
        Check.is("end 0", x.get(2, 0, 4), 1);
        Check.is("end 1", x.get(2, 0, 5), 0);
        Check.is("a load's bar", x.get(4, 1, 1), 1);
        Check.is("a machine's bar", x.get(3, 0, 10), 1);
    }

    /** Each of the 256 bytes behind and ahead of a word, and alone. */
    private static void bytes() {
        for (int b = 0; b < 256; b++) {
            char c = (char) b;
            boolean plain = c >= 'a' && c <= 'z' || c >= '0' && c <= '9';
            boolean blank = c == 32 || c == 10;
            Check.sentence("WORDS: rows of a .. z and 0 .. 9; each other byte but 32 and 10 is a word by itself: " + b);
            if (plain) {
                good("bar a" + c + ";", 1);
                fault("bar" + c + "a;", 0);
                fault("bar a;" + c, 6);
            } else if (blank) {
                good("bar a" + c + ";", 1);
                good("bar" + c + "a;", 1);
                good(c + "bar a;" + c + c, 1);
            } else {
                fault("bar a" + c + (c == ';' ? ";" : ""), c == ';' ? 6 : 5);
                fault("bar" + c + "a;", 3);
                fault("bar a;" + c, 6);
                fault("bar " + c + ";", 4);
                fault("" + c + c, 0);
                fault("bar a" + c + "b;", c == ';' ? 6 : 5);
            }
        }
    }

    private static void words() {
        Check.sentence("WORDS: rows of a .. z and 0 .. 9, as long as can be");
        fault("bara;", 0);
        fault("bar a;barb;", 6);
        fault(TWO + "switch s a bopen 1;", 23);
        fault(TWO + "switch s a b open1;", 25);
        fault(TWO + "load p a1;", 19);
        good("bar a1b;load q a1b 1;", 1);
        good("bar a;load p a 1;bar b;", 2);
        fault("bar a;load p a 1bar b;", 15);
        good("\nbar\n\na\n;\n", 1);
        Check.sentence("A text without words is a net without objects");
        good("", 0);
        good(" ", 0);
        good("\n", 0);
        good(" \n \n  ", 0);
        GridHouse x = Check.house(TWO);
        Check.is("net", Check.net(x, "\n"), 0);
        Check.is("count", x.count(0), 0);
    }

    private static void numbers() {
        Check.sentence("NUMBERS are words of one to six figures alone");
        String head = TWO + "switch s a b open ";
        for (String n : new String[] {"1", "9", "12", "123456", "999999", "000001", "01"}) {
            GridHouse x = Check.house(head + n + ";");
            Check.is("TIME told by " + n, x.get(1, 0, 1), Integer.parseInt(n));
        }
        for (String n : new String[] {"0000001", "1000000", "1234567", "4294967297", "18446744073709551617", "1a", "a1",
            "a", "1e3", "+1", "-1", ".1", "1z", "000000000000000000000000000001", "one", "0x1", "/", ":"}) {
            fault(head + n + ";", head.length());
        }
        fault(head + "1.5;", head.length() + 1);
        fault(head + "1 2;", head.length() + 2);
        fault(head + ";", head.length());
        fault(head + "open;", head.length());
        good(TWO + "load p a 000000;", 2);
        fault(TWO + "load p a 0000000;", 21);
    }

    private static void names() {
        Check.sentence("NAMES words that begin with a letter, of 8 bytes at most, and are no KEYS");
        for (String n : new String[] {"a", "z", "a0", "z9999999", "abcdefgh", "bars", "ba", "b", "switche", "opened",
            "i", "isis", "ifs", "n", "tagge", "taggedx", "bar1", "machines", "loop", "earthe", "clos", "unknown",
            "of", "on"}) {
            GridHouse x = Check.house("bar " + n + ";");
            for (int k = 0; k <= n.length(); k++) {
                Check.is("byte " + k + " of " + n, x.name(0, 0, k), k < n.length() ? n.charAt(k) : -1);
            }
            Check.is("find " + n, Check.find(x, n), 0);
        }
        for (String n : new String[] {"abcdefghi", "abcdefgh1", "a23456789012345678", "1", "0a", "9", "A",
            "ab_c", "_"}) {
            fault("bar " + n + ";", n.equals("ab_c") ? 6 : 4);
        }
        // behind eight more bytes the first eight are another name's
        fault("bar abcdefghabcdefgh;", 4);
        Check.is("there are 31 keys", KEYS.length, 31);
        for (String key : KEYS) {
            fault("bar " + key + ";", 4);
            fault(TWO + "switch " + key + " a b open 1;", 19);
            fault(TWO + "line " + key + " a b 1 1 1;", 17);
            fault(TWO + "machine " + key + " a 1 1 1 1 1 1 1 1;", 20);
            fault(TWO + "load " + key + " a 1;", 17);
            good("bar " + key + "0;", 1);
            good("bar x" + key.substring(1) + ";", 1);
            boolean isSort = key.equals("bar") || key.equals("switch") || key.equals("line") || key.equals("machine")
                    || key.equals("load");
            fault(key + " a", isSort ? key.length() + 2 : 0);
        }
    }

    private static void alike() {
        Check.sentence("N is a NAME that no object has");
        for (int first = 0; first < 5; first++) {
            for (int second = 0; second < 5; second++) {
                String head = TWO + SORTS[first] + "x" + TAILS[first] + SORTS[second];
                fault(head + "x" + TAILS[second], head.length());
                good(head + "y" + TAILS[second], first == 0 ? second == 0 ? 4 : 3 : second == 0 ? 3 : 2);
            }
        }
        fault("bar a;bar a;", 10);
        // its own name is none of a bar told before
        fault("bar a;switch s s a open 1;", 15);
        fault("bar a;load p p 1;", 13);
    }

    private static void bars() {
        Check.sentence("A and B are names of bars told before, B another one than A");
        for (int sort = 1; sort < 5; sort++) {
            String head = TWO + SORTS[sort] + "x ";
            String tail = TAILS[sort].substring(2);
            fault(head + "c" + tail + "bar c;", head.length());
            good(TWO + "bar c;" + SORTS[sort] + "x c" + tail, 3);
            fault(head + "x" + tail, head.length());
            fault(head + "1" + tail, head.length());
            fault(head + "bar" + tail, head.length());
            fault(head + ";", head.length());
            fault(TWO + "load p a 1;" + SORTS[sort] + "x p" + tail, (TWO + "load p a 1;" + SORTS[sort]
                    + "x ").length());
        }
        for (int sort = 1; sort < 3; sort++) {
            String head = TWO + SORTS[sort] + "x a ";
            String tail = TAILS[sort].substring(4);
            good(head + "b" + tail, 2);
            fault(head + "a" + tail, head.length());
            fault(head + "c" + tail, head.length());
            fault(head + "x" + tail, head.length());
            fault(head + "open" + tail, head.length());
            good(TWO + SORTS[sort] + "x b a" + tail, 2);
            fault(TWO + SORTS[sort] + "x b b" + tail, head.length());
        }
    }

    private static void states() {
        Check.sentence("STATE is open or closed");
        String head = TWO + "switch s a b ";
        Check.is("open", Check.house(head + "open 1;").get(1, 0, 0), 0);
        Check.is("closed", Check.house(head + "closed 1;").get(1, 0, 0), 1);
        for (String word : new String[] {"close", "opened", "unknown", "0", "1", "is", "tagged", "a", ";"}) {
            fault(head + word + " 1;", head.length());
        }
    }

    private static void number(String head, String tail, int least, int most) {
        good(head + least + tail, 2);
        good(head + most + tail, 2);
        fault(head + (most + 1) + tail, head.length());
        fault(head + 999999 + tail, most == 999999 ? -3 : head.length());
        if (least > 0) {
            fault(head + (least - 1) + tail, head.length());
        }
        fault(head + "-" + tail, head.length());
        fault(head + "x" + tail, head.length());
        fault(head + ";", head.length());
        fault(head, head.length());
    }

    private static void numbersByPlace() {
        Check.sentence("T 1 .. 999999");
        String head = TWO + "switch s a b closed ";
        good(head + "1;", 2);
        good(head + "999999;", 2);
        fault(head + "0;", head.length());
        fault(head + "1000000;", head.length());
        Check.sentence("X 1 .. 99; of a line");
        number(TWO + "line l a b ", " 1 1;", 1, 99);
        Check.sentence("Z 1 .. 299 of a line");
        number(TWO + "line l a b 1 ", " 1;", 1, 299);
        Check.sentence("L 0 .. 9999");
        number(TWO + "line l a b 1 1 ", ";", 0, 9999);
        Check.sentence("X 1 .. 99 of a machine");
        number(TWO + "machine g a ", " 1 1 1 1 1 1 1;", 1, 99);
        Check.sentence("of a machine 0 .. 299");
        number(TWO + "machine g a 1 ", " 1 1 1 1 1 1;", 0, 299);
        Check.sentence("LO 0 .. 9999");
        number(TWO + "machine g a 1 1 ", " 9999 1 1 1 1;", 0, 9999);
        Check.sentence("HI 0 .. 9999");
        number(TWO + "machine g a 1 1 0 ", " 1 1 1 1;", 0, 9999);
        Check.sentence("C 0 .. 999");
        number(TWO + "machine g a 1 1 1 1 ", " 1 999 1;", 0, 999);
        Check.sentence("M 0 .. 9999");
        number(TWO + "machine g a 1 1 1 1 1 ", " 1 1;", 0, 9999);
        Check.sentence("D 0 .. 999");
        number(TWO + "machine g a 1 1 1 1 0 1 ", " 1;", 0, 999);
        Check.sentence("S 0 .. 9");
        number(TWO + "machine g a 1 1 1 1 1 1 1 ", ";", 0, 9);
        Check.sentence("MW 0 .. 9999");
        number(TWO + "load p a ", ";", 0, 9999);
    }

    private static void byOneAnother() {
        Check.sentence("HI not below LO");
        number(TWO + "machine g a 1 1 57 ", " 1 1 1 1;", 57, 9999);
        Check.sentence("D not below C");
        number(TWO + "machine g a 1 1 1 1 57 1 ", " 1;", 57, 999);
        Check.sentence("A machine's MW is LO at first");
        GridHouse x = Check.house(TWO + "machine g a 1 1 57 90 1 70 1 1;machine h a 1 1 0 90 1 70 1 1;");
        Check.is("MW", x.get(3, 0, 1), 57);
        Check.is("MW", x.get(3, 1, 1), 0);
    }

    /** All words of a text, and each place at which it may end. */
    private static void ends() {
        Check.sentence("or the text's length, if it ends within a statement");
        String text = "bar a ; bar b ; switch s a b open 1 ; line l a b 1 1 1 ; machine g a 1 1 1 1 1 1 1 1 ;"
                + " load p a 1 ;";
        int bars = 0;
        boolean within = false;
        for (int at = 0; at <= text.length(); at++) {
            boolean wordEnds = at == text.length() || text.charAt(at) == ' ';
            if (wordEnds) {
                within = at > 0 && text.charAt(at - 1) != ';';
                bars = at < 7 ? 0 : at < 15 ? 1 : 2;
                Check.is("net " + text.substring(0, at), Check.net(new GridHouse(), text.substring(0, at)),
                        within ? -1 - at : bars);
                String more = text.substring(0, at) + " \n";
                Check.is("net " + more, Check.net(new GridHouse(), more), within ? -1 - more.length() : bars);
                String sign = text.substring(0, at) + "  ?";
                Check.is("net " + sign, Check.net(new GridHouse(), sign), -1 - at - 2);
            }
        }
    }

    private static void atFirst() {
        GridHouse x = Check.house(TWO + "switch s a b closed 1;line l a b 1 1 1;machine g a 1 1 1 1 1 1 1 1;");
        Check.sentence("A BAR may be EARTHED (at first not)");
        Check.is("EARTHED", x.get(0, 0, 0) + x.get(0, 1, 0), 0);
        Check.sentence("it may be TAGGED, it FAILS or not (both at first not)");
        Check.is("TAGGED", x.get(1, 0, 2), 0);
        Check.is("FAILS", x.fails(0, false), false);
        Check.sentence("it has X, Z, a LIMIT, and is IN or not (at first it is)");
        Check.is("IN", x.get(2, 0, 0), 1);
        Check.sentence("it is ON or not (at first it is)");
        Check.is("ON", x.get(3, 0, 0), 1);
        // nothing of an object told before is left, where the new one does not tell it
        Check.order(x, "earth a;tag s;open s;");
        Check.is("carry", x.carry(), 3);
        x.set(2, 0, 0, 0);
        x.set(3, 0, 0, 0);
        x.fails(0, true);
        Check.is("net", Check.net(x, TWO + "switch s a b closed 1;line l a b 1 1 1;machine g a 1 1 1 1 1 1 1 1;"), 2);
        Check.is("EARTHED", x.get(0, 0, 0), 0);
        Check.is("TAGGED", x.get(1, 0, 2), 0);
        Check.is("STATE", x.get(1, 0, 0), 1);
        Check.is("IN", x.get(2, 0, 0), 1);
        Check.is("ON", x.get(3, 0, 0), 1);
        Check.is("FAILS", x.fails(0, false), false);
        Check.sentence("Promise 1: a new object");
        GridHouse y = new GridHouse();
        for (int sort = 0; sort <= 15; sort++) {
            Check.is("count " + sort, y.count(sort), 0);
        }
        Check.inHand("at first", y, "0/1");
        Check.is("no row is found", y.step(0), -1);
        Check.is("no short", y.clearShort(), false);
        Check.refuses("no run", Check.STATE, () -> y.run(0));
        Check.refuses("nothing is kept", Check.STATE, () -> y.back(0));
        Check.is("BACK", y.backup(0), 100000);
    }

    private static GridHouse filled() {
        GridHouse x = Check.house("bar a;bar b;bar c;switch s a b open 10;switch t b c open 9;line l a c 1 1 100;"
                + "machine g a 2 3 5 200 3 100 7 1;load p b 5;load q c 6;");
        x.meter(0, 0, 1, 1);
        x.relay(0, 0, 0, 0);
        x.row(0, 0, 0);
        x.fails(0, true);
        x.backup(3);
        x.keep(1);
        x.shortAt(0, 2, 0);
        Check.rules(x, "no tag if lost is 1;");
        Check.order(x, "close s;");
        x.restore(2);
        x.begin();
        x.run(1);
        x.angle(2);
        return x;
    }

    private static void netStays() {
        for (String text : new String[] {"bar", "bar x;bar", "x", "bar x; load p x 10000;", ";"}) {
            Check.sentence("Promise 4: with a FAULT -1 less it, and all else stays");
            GridHouse x = filled();
            Check.is("net", Check.net(x, text) < 0, true);
            Check.sentence("THE TAPE is empty then");
            Check.is("the tape", x.count(9), 0);
            String told = Told.of(() -> {
                GridHouse y = filled();
                Check.net(y, text);
                return y;
            });
            Check.is("all is as it was", told.equals(Told.of(() -> filled())), true);
        }
        for (String text : new String[] {"no", "no close if lost is 11;no", "x", "no close if lost is 11;;"}) {
            Check.sentence("Promise 5: with a FAULT -1 less it, and they stay");
            GridHouse x = filled();
            Check.is("rules", Check.rules(x, text) < 0, true);
            Check.is("the tape", x.count(9), 0);
            String told = Told.of(() -> {
                GridHouse y = filled();
                Check.rules(y, text);
                return y;
            });
            Check.is("all is as it was", told.equals(Told.of(() -> filled())), true);
        }
        for (String text : new String[] {"open", "tag s;open", "x", "tag s;;", "tag s;tag a;"}) {
            Check.sentence("Promise 6: likewise");
            GridHouse x = filled();
            Check.is("order", Check.order(x, text) < 0, true);
            Check.is("the tape", x.count(9), 0);
            String told = Told.of(() -> {
                GridHouse y = filled();
                Check.order(y, text);
                return y;
            });
            Check.is("all is as it was", told.equals(Told.of(() -> filled())), true);
        }
        for (String text : new String[] {"a", "nothing", " ", "", "aaaaaaaaaaaaaaaaaaaaaaaaaaaaa"}) {
            Check.sentence("Promise 7: find() changes nothing but the tape");
            GridHouse x = filled();
            Check.find(x, text);
            Check.is("the tape", x.count(9), 0);
            String told = Told.of(() -> {
                GridHouse y = filled();
                Check.find(y, text);
                return y;
            });
            Check.is("all is as it was", told.equals(Told.of(() -> filled())), true);
        }
    }

    /** Behind net() an object tells what a new one does, but for the number in hand. */
    private static void netGoes() {
        Check.sentence("Promise 4: meters, relays, rules, the order, kept nets go, too, and the SHORT; BACK is 100000");
        String text = "bar a;bar b;switch s a b closed 10;line l a b 1 1 3;machine g a 2 3 5 200 3 100 7 1;load p b 5;";
        for (String other : new String[] {text, "", "bar z;"}) {
            String told = Told.of(() -> {
                GridHouse y = filled();
                y.angle(0);
                Check.is("net", Check.net(y, other) >= 0, true);
                return y;
            });
            Check.is("as a new one", told.equals(Told.of(() -> Check.house(other))), true);
        }
        GridHouse x = filled();
        x.angle(2);
        Check.sentence("it stays till another one is made");
        Check.inHand("angle", x, "6/1");
        Check.net(x, "");
        Check.inHand("behind net()", x, "6/1");
        Check.rules(x, "");
        Check.order(x, "");
        Check.find(x, "");
        x.dispatch();
        x.worst();
        x.screen();
        Check.inHand("behind calls that make none", x, "6/1");
    }

    /** What a greater net told is not there any more, neither for a text nor for what is asked of the smaller net. */
    private static void oldNames() {
        Check.sentence("Promise 4: THE TAPE is read as a net, in place of the one there was");
        StringBuilder t = new StringBuilder(TWO);
        for (int sort = 0; sort < 5; sort++) {
            for (int i = sort == 0 ? 2 : 0; i < MOST[sort]; i++) {
                t.append(SORTS[sort]).append("bslmo".charAt(sort)).append(i).append(TAILS[sort].replace("open",
                        "closed"));
            }
        }
        String small = "bar a;bar b;bar c;switch x a b open 1;line y a b 1 1 1;machine z a 1 1 1 1 1 1 1 1;load w a 1;";
        GridHouse z = Check.house(t.toString());
        z.net();
        Check.is("find in a net without objects", Check.find(z, "b2"), -1);
        Check.is("net", Check.net(z, t.toString()), 16);
        for (int sort = 0; sort < 5; sort++) {
            GridHouse x = Check.house(t.toString());
            Check.is("net", Check.net(x, small), 3);
            for (int i = sort == 0 ? 2 : 0; i < MOST[sort]; i++) {
                Check.is("find an old name", Check.find(x, "" + "bslmo".charAt(sort) + i), -1);
            }
            int count = x.count(sort);
            int old = sort;
            Check.is("name", x.name(sort, count, 0), -1);
            Check.refuses("get", Check.INDEX, () -> x.get(old, count, 0));
        }
        GridHouse x = Check.house(t.toString());
        Check.is("net", Check.net(x, small), 3);
        Check.is("an old switch", Check.order(x, "open s1;"), -6);
        Check.is("an old bar", Check.order(x, "earth b3;"), -7);
        Check.is("an old switch", Check.rules(x, "no tag if closed s1;"), -18);
        Check.is("an old bar", Check.rules(x, "no tag if live b3;"), -16);
        Check.is("an old bar", Check.net(x, "bar a;load p b3 1;"), -14);
        Check.is("an old bar", Check.net(x, "bar a;bar b;bar c;bar d;load p b4 1;"), -32);
        Check.is("an old bar's name is free", Check.net(x, "bar b2;bar b3;load s1 b3 1;load w b2 7;"), 2);
        String told = Told.of(() -> {
            GridHouse y = Check.house(t.toString());
            Check.is("net", Check.net(y, small), 3);
            return y;
        });
        Check.is("as if there had been none", told.equals(Told.of(() -> Check.house(small))), true);
        GridHouse y = Check.house(t.toString());
        Check.net(y, small);
        Check.is("nodes", y.count(10), 3);
        Check.is("islands", y.count(11), 2);
        Check.is("rules", Check.rules(y, "no tag if loops above 0;no tag if lost above 0;no tag if over above 0;"), 3);
        Check.order(y, "tag x;");
        Check.is("nothing of the old net is asked", y.barred(0), -1);
        Check.is("restore", y.restore(3), 0);
    }

    private static void feeds() {
        Check.sentence("Promise 2: twenty bytes come behind THE TAPE, of each number the highest first");
        GridHouse x = new GridHouse();
        // names of bytes from 0x61 to 0x7a; a number below 0 begins with a byte above 127
        Check.is("feed", x.feed(0x62617220, 0x6162633b, 0x0a20200a, 0x62617220, 0x7a203b20), 20);
        Check.is("net", x.net(), 2);
        Check.is("name", x.name(0, 0, 2), 'c');
        Check.is("name", x.name(0, 1, 0), 'z');
        Check.is("feed", x.feed(0x62617220, 0x613b20ff, 0x20202020, 0x20202020, 0x20202020), 20);
        Check.is("byte 255 at 7", x.net(), -8);
        Check.is("feed", x.feed(0x80202020, 0x20202020, 0x20202020, 0x20202020, 0x20202020), 20);
        Check.is("byte 128 at 0", x.net(), -1);
        Check.is("feed", x.feed(0x20202020, 0x20202020, 0x20202020, 0x20202020, 0x202020bb), 20);
        Check.is("byte 187 at 19", x.net(), -20);
        Check.is("feed", x.feed(0x20202020, 0x20202020, 0x20202020, 0x20202020, 0x20202020), 20);
        Check.is("feed", x.feed(0x20202020, 0x20202020, 0x20202020, 0x20202020, 0x2020203b), 40);
        Check.is("byte 59 at 39", x.net(), -40);
        Check.sentence("Promise 2: it would have more than 4000");
        GridHouse y = new GridHouse();
        for (int i = 1; i <= 200; i++) {
            Check.is("feed", y.feed(0x20202020, 0x20202020, 0x20202020, 0x20202020, 0x20202020), 20 * i);
        }
        Check.refuses("feed at 4000", Check.STATE, () -> y.feed(0, 0, 0, 0, 0));
        for (int n = 3999; n > 3980; n--) {
            y.end(n);
            Check.refuses("feed at " + n, Check.STATE, () -> y.feed(0, 0, 0, 0, 0));
            Check.is("count", y.count(9), n);
        }
        y.end(3980);
        Check.is("feed", y.feed(0x20202020, 0x20202020, 0x20202020, 0x20202020, 0x20202021), 4000);
        Check.is("the last byte", y.net(), -4000);
        Check.sentence("Promise 3: THE TAPE is cut behind its first n bytes");
        GridHouse z = new GridHouse();
        z.end(0);
        Check.refuses("end", Check.ARGUMENT, () -> z.end(1));
        Check.feed(z, "bar a;bar b;");
        z.end(12);
        z.end(6);
        Check.refuses("end", Check.ARGUMENT, () -> z.end(7));
        z.end(6);
        Check.feed(z, "bar c;");
        Check.is("behind the cut", z.net(), 2);
        Check.is("name", z.name(0, 1, 0), 'c');
        Check.feed(z, "bar a;");
        z.end(0);
        Check.is("nothing is left", z.net(), 0);
        Check.feed(z, "bar ab;");
        z.end(5);
        Check.feed(z, ";");
        Check.is("a word is cut", z.net(), 1);
        Check.is("name", z.name(0, 0, 1), -1);
    }

    private static int netCut(String text, int n) {
        GridHouse x = new GridHouse();
        Check.feed(x, text);
        x.end(n);
        return x.net();
    }

    /** What was behind the cut is not read, not even where a word stood across it. */
    private static void cuts() {
        Check.sentence("Promise 3: THE TAPE is cut behind its first n bytes");
        String text = "bar ab;bar cd;load ef cd 1234;";
        int[] due = {0, -1, -1, -4, -5, -6, -7, 1, -8, -8, -11, -12, -13, -14, 2, -15, -15, -15, -19, -20, -21, -22,
            -23, -23, -25, -26, -27, -28, -29, -30, 2};
        for (int n = 0; n <= text.length(); n++) {
            Check.is("net of the first " + n, netCut(text, n), due[n]);
        }
        GridHouse x = Check.house("bar ab;bar a;switch abc a ab open 1;");
        String[] names = {"abc", "ab", "a"};
        int[] found = {100, 0, 1};
        for (int i = 0; i < 3; i++) {
            Check.feed(x, "abcdefghijk");
            x.end(names[i].length());
            Check.is("find " + names[i], x.find(), found[i]);
        }
        Check.feed(x, "no tag if closed abcd;");
        x.end(20);
        Check.is("rules", x.rules(), -21);
        Check.feed(x, "no tag if lost is 1234567;");
        x.end(24);
        Check.feed(x, ";");
        Check.is("rules", x.rules(), 1);
        Check.feed(x, "no tag if lost is 1234567;");
        x.end(25);
        Check.feed(x, ";");
        Check.is("rules", x.rules(), -19);
        Check.sentence("a word, a name, a number at the end of a full tape");
        StringBuilder blank = new StringBuilder();
        for (int i = 0; i < 4000; i++) {
            blank.append(i % 2 == 0 ? ' ' : '\n');
        }
        String[] ends = {"bar", "bar abcdefgh", "bar a;load p a 123456", "bar a;load p a 9999;", "barr", "a;", ";"};
        int[] answers = {-4001, -4001, -1 - 3994, 1, -1 - 3996, -1 - 3998, -4000};
        for (int i = 0; i < ends.length; i++) {
            String full = blank.substring(ends[i].length()) + ends[i];
            Check.is("net of a full tape, " + ends[i], Check.net(new GridHouse(), full), answers[i]);
        }
        Check.is("a full tape of one word", Check.net(new GridHouse(), blank.toString().replaceAll("[ \n]", "a")), -1);
        Check.is("a full tape without words", Check.net(new GridHouse(), blank.toString()), 0);
    }

    private static void finds() {
        Check.sentence("Promise 7: THE TAPE, wholly, is the name of an object: 100 times its sort, and its number;"
                + " NONE");
        String net = TWO + "bar abcdefgh;bar abc;switch s a b open 1;switch t a b open 1;line l a b 1 1 1;"
                + "machine g a 1 1 1 1 1 1 1 1;machine h a 1 1 1 1 1 1 1 1;load p a 1;load q a 1;load r a 1;";
        String[] names = {"a", "b", "abcdefgh", "abc", "s", "t", "l", "g", "h", "p", "q", "r"};
        int[] due = {0, 1, 2, 3, 100, 101, 200, 300, 301, 400, 401, 402};
        for (int i = 0; i < names.length; i++) {
            GridHouse x = Check.house(net);
            Check.is("find " + names[i], Check.find(x, names[i]), due[i]);
            for (String sign : new String[] {" ", "\n", ";", "\0", "x", "1", "\u00ff"}) {
                Check.is("find a sign behind", Check.find(x, names[i] + sign), -1);
                Check.is("find a sign ahead", Check.find(x, sign + names[i]), -1);
            }
        }
        GridHouse x = Check.house(net);
        for (String none : new String[] {"", " ", "\0", "ab", "abcdefg", "abcdefghi", "aa", "a b", "A", "bar", "it",
            "1", "abcdefghabcdefgh", "\0\0\0\0\0\0\0a", "\0\0\0\0\0\0\0\0a",
            "\u00ff\u00ff\u00ff\u00ff\u00ff\u00ff\u00ff\u00ff"}) {
            Check.is("find " + none, Check.find(x, none), -1);
            Check.is("the tape", x.count(9), 0);
        }
        for (int i = 0; i < 200; i++) {
            x.feed(0x61616161, 0x61616161, 0x61616161, 0x61616161, 0x61616161);
        }
        Check.is("find with a full tape", x.find(), -1);
        Check.is("the tape", x.count(9), 0);
        x.feed(0x61202020, 0, 0, 0, 0);
        x.end(1);
        Check.is("find", x.find(), 0);
    }

    private static void counts() {
        Check.sentence("Promise 8: objects of a sort 0 .. 6; 7 rules ... 15 LOST");
        GridHouse x = filled();
        int[] due = {3, 2, 1, 1, 2, 1, 1, 1, 1, 0, 3, 2, 1, 0, 0, 5};
        for (int sort = 0; sort <= 15; sort++) {
            Check.is("count " + sort, x.count(sort), due[sort]);
        }
        GridHouse y = Check.house("bar a;bar b;switch s a b open 1;line l a b 1 1 4;line m a b 1 1 5;"
                + "machine g a 1 1 0 99 1 1 1 1;load p b 10;");
        Check.is("5 is above 4, not above 5", y.count(14), 1);
        y.set(4, 0, 0, 9999);
        Check.is("both", y.count(14), 2);
        y.set(3, 0, 0, 0);
        Check.is("none in a dead island", y.count(14), 0);
        Check.is("LOST", y.count(15), 9999);
        StringBuilder t = new StringBuilder("bar a;");
        for (int i = 0; i < 12; i++) {
            t.append("load p").append(i).append(" a 9999;");
        }
        Check.is("LOST of all loads", Check.house(t.toString()).count(15), 12 * 9999);
    }

    private static void namesBytes() {
        Check.sentence("Promise 9: byte k of the name of object i of a sort 0 .. 4; NONE: none such");
        GridHouse x = filled();
        Check.is("name", x.name(0, 0, 0), 'a');
        Check.is("name", x.name(4, 1, 0), 'q');
        // 1 << 29 by the eight bits of a byte wraps round to 0
        for (int k : new int[] {1, -1, 2, 8, 1 << 29, -(1 << 29), 1 << 30, Integer.MIN_VALUE, Integer.MAX_VALUE}) {
            Check.is("name byte " + k, x.name(0, 0, k), -1);
        }
        for (int sort : new int[] {-1, 5, 6, 7, Integer.MIN_VALUE, Integer.MAX_VALUE}) {
            Check.is("name of sort " + sort, x.name(sort, 0, 0), -1);
        }
        int[] count = {3, 2, 1, 1, 2};
        for (int sort = 0; sort < 5; sort++) {
            for (int i : new int[] {-1, count[sort], 16, 24, Integer.MIN_VALUE, Integer.MAX_VALUE}) {
                Check.is("name of object " + i, x.name(sort, i, 0), -1);
            }
            Check.is("name of the last one", x.name(sort, count[sort] - 1, 0) > 0, true);
        }
    }

    private static void sets() {
        Check.sentence("Promise 11: a FIELD becomes v: what it was");
        GridHouse x = filled();
        int[][] bounds = {{1, 0, 0, 2}, {1, 1, 1, 999999}, {2, 0, 0, 1}, {2, 1, 1, 99}, {2, 2, 1, 299}, {2, 3, 0, 9999},
            {3, 0, 0, 1}, {3, 1, 0, 9999}, {3, 2, 1, 99}, {3, 3, 0, 299}, {3, 4, 0, 200}, {3, 5, 5, 9999}, {3, 6, 0, 7},
            {3, 7, 0, 9999}, {3, 8, 3, 999}, {3, 9, 0, 9}, {4, 0, 0, 9999}};
        for (int[] b : bounds) {
            int was = x.get(b[0], 0, b[1]);
            for (int v : new int[] {b[2], b[3], was}) {
                int now = x.get(b[0], 0, b[1]);
                Check.is("set " + b[0] + " " + b[1] + " " + v, x.set(b[0], 0, b[1], v), now);
                Check.is("get", x.get(b[0], 0, b[1]), v);
            }
        }
        Check.sentence("Promise 11: LO, HI, C, D by one another, too");
        x.set(3, 0, 5, 50);
        x.set(3, 0, 4, 50);
        Check.refuses("LO above HI", Check.ARGUMENT, () -> x.set(3, 0, 4, 51));
        Check.refuses("HI below LO", Check.ARGUMENT, () -> x.set(3, 0, 5, 49));
        x.set(3, 0, 5, 51);
        x.set(3, 0, 4, 51);
        x.set(3, 0, 6, 7);
        Check.refuses("C above D", Check.ARGUMENT, () -> x.set(3, 0, 6, 8));
        Check.refuses("D below C", Check.ARGUMENT, () -> x.set(3, 0, 8, 6));
        x.set(3, 0, 8, 8);
        x.set(3, 0, 6, 8);
        x.set(3, 0, 1, 0);
        Check.is("MW may be below LO", x.get(3, 0, 1), 0);
        x.set(3, 0, 1, 9999);
        Check.is("and above HI", x.get(3, 0, 1), 9999);
        x.set(3, 0, 7, 0);
        x.set(3, 0, 7, 9999);
        Check.sentence("Promise 11: CHANGES THE NET (also by the same v)");
        x.shortAt(0, 0, 0);
        x.begin();
        Check.refuses("v", Check.ARGUMENT, () -> x.set(1, 0, 0, 3));
        Check.is("the run goes on", x.run(0) >= 0, true);
        Check.is("set", x.set(1, 0, 0, 0), 0);
        Check.refuses("the run ended", Check.STATE, () -> x.run(0));
    }

    /** All FIELDS of all objects. */
    private static int[] fields(GridHouse x) {
        int[] all = new int[80];
        int[] width = {1, 5, 6, 11, 2};
        int n = 0;
        for (int sort = 0; sort < width.length; sort++) {
            for (int i = 0; i < x.count(sort); i++) {
                for (int field = 0; field < width[sort]; field++) {
                    all[n] = x.get(sort, i, field);
                    n++;
                }
            }
        }
        return all;
    }

    private static void onlyOne() {
        Check.sentence("Promise 11: a FIELD becomes v, and no other one another");
        int[][] sets = {{1, 0, 1}, {1, 0, 2}, {1, 1, 7}, {2, 0, 0}, {2, 1, 9}, {2, 2, 9}, {2, 3, 9}, {3, 0, 0},
            {3, 1, 9}, {3, 2, 9}, {3, 3, 9}, {3, 4, 0}, {3, 4, 200}, {3, 5, 5}, {3, 5, 9999}, {3, 6, 0}, {3, 6, 7},
            {3, 7, 9}, {3, 7, 0}, {3, 8, 3}, {3, 8, 999}, {3, 9, 9}, {4, 0, 9}};
        for (int[] f : sets) {
            for (int i = 0; i < (f[0] == 1 || f[0] == 4 ? 2 : 1); i++) {
                GridHouse x = filled();
                int was = x.get(f[0], i, f[1]);
                int[] before = fields(x);
                x.set(f[0], i, f[1], f[2]);
                Check.is("get", x.get(f[0], i, f[1]), f[2]);
                int[] behind = fields(x);
                int others = 0;
                for (int k = 0; k < before.length; k++) {
                    others += before[k] == behind[k] ? 0 : 1;
                }
                Check.is("how many are others by " + f[0] + " " + f[1] + " " + f[2], others, was == f[2] ? 0 : 1);
            }
        }
        GridHouse y = filled();
        y.set(3, 0, 0, 0);
        y.set(3, 0, 1, 77);
        y.set(3, 0, 0, 1);
        Check.is("ON again it has the MW that it had", y.get(3, 0, 1), 77);
        y.set(3, 0, 4, 100);
        y.set(3, 0, 5, 100);
        Check.is("LO and HI leave its MW", y.get(3, 0, 1), 77);
    }

    private static void keeps() {
        Check.sentence("Promises 12, 13: kept as k (0 .. 2); none are kept so (since net())");
        GridHouse x = filled();
        for (int k = 0; k < 3; k++) {
            x.set(4, 0, 0, 100 + k);
            x.keep(k);
        }
        x.set(4, 0, 0, 9);
        for (int k = 2; k >= 0; k--) {
            x.back(k);
            Check.is("kept as " + k, x.get(4, 0, 0), 100 + k);
        }
        x.keep(1);
        x.back(1);
        Check.is("kept anew", x.get(4, 0, 0), 100);
        x.back(2);
        Check.is("the other stays", x.get(4, 0, 0), 102);
        Check.is("a net with a fault", Check.net(x, "bar"), -4);
        x.back(1);
        Check.is("they are still kept", x.get(4, 0, 0), 100);
        Check.is("net", Check.net(x, "bar a;load p a 5;"), 1);
        for (int k = 0; k < 3; k++) {
            int i = k;
            Check.refuses("back", Check.STATE, () -> x.back(i));
        }
        x.keep(2);
        x.set(4, 0, 0, 6);
        x.back(2);
        Check.is("kept since", x.get(4, 0, 0), 5);
        Check.refuses("back", Check.STATE, () -> x.back(1));
        Check.sentence("Promise 13: CHANGES THE NET");
        x.shortAt(0, 0, 0);
        x.begin();
        x.keep(0);
        Check.refuses("another k", Check.ARGUMENT, () -> x.back(3));
        Check.refuses("none are kept so", Check.STATE, () -> x.back(1));
        Check.is("the run goes on", x.run(0), 0);
        x.back(0);
        Check.refuses("the run ended", Check.STATE, () -> x.run(0));
    }

    private static void calls() {
        Check.sentence("An object is used for at most 512 calls after it has been made");
        GridHouse x = new GridHouse();
        x.feed(0x62617220, 0x613b2020, 0x20202020, 0x20202020, 0x20202020);
        Check.is("call 2", x.net(), 1);
        for (int call = 3; call < 512; call++) {
            Check.is("call " + call, call % 2 == 0 ? x.count(0) : x.bar(0, 0), call % 2 == 0 ? 1 : 0);
        }
        Check.is("call 512", x.name(0, 0, 0), 'a');
    }

    private static void nodes() {
        Check.sentence("A node, an island has the number of its least bar");
        GridHouse x = Check.house("bar a;bar b;bar c;bar d;bar e;bar f;switch s e d closed 1;switch t d b closed 1;"
                + "switch u f c open 1;line l f e 1 1 1;line m c f 1 1 1;machine g c 1 1 0 9 1 1 1 1;");
        int[][] due = {{0, 0, 0}, {1, 1, 1}, {2, 1, 1}, {1, 1, 1}, {1, 1, 1}, {5, 1, 1}};
        for (int b = 0; b < 6; b++) {
            for (int what = 0; what < 3; what++) {
                Check.is("bar " + b + " " + what, x.bar(b, what), due[b][what]);
            }
        }
        Check.is("nodes", x.count(10), 4);
        Check.is("islands", x.count(11), 2);
        Check.sentence("lines that are IN");
        x.set(2, 0, 0, 0);
        Check.is("its own island", x.bar(5, 1), 2);
        Check.is("its own island", x.bar(4, 1), 1);
        Check.is("DEAD without a machine", x.bar(4, 2), 0);
        Check.sentence("it is LIVE, if it has a machine that is ON");
        x.set(3, 0, 0, 0);
        Check.is("LIVE", x.bar(2, 2), 0);
        Check.is("LIVE", x.count(12), 0);
        Check.sentence("An unknown one counts as open, where nothing else is said");
        x.set(3, 0, 0, 1);
        x.set(1, 0, 0, 2);
        Check.is("node of e", x.bar(4, 0), 4);
        Check.is("nodes", x.count(10), 5);
        Check.sentence("Promise 14: 4: 1 LIVE, 0 DEAD with all unknown switches closed, too, else 2");
        x.set(1, 2, 0, 2);
        Check.is("e is DEAD anyhow", x.bar(4, 4), 0);
        Check.is("f is LIVE", x.bar(5, 4), 1);
        x.set(2, 1, 0, 0);
        Check.is("f by the unknown switch u", x.bar(5, 4), 2);
        Check.is("c", x.bar(2, 4), 1);
        x.set(2, 0, 0, 1);
        Check.is("e by u and a line", x.bar(4, 4), 2);
        Check.is("d by u, a line, and s", x.bar(3, 4), 2);
        Check.is("b, too", x.bar(1, 4), 2);
        Check.is("a by nothing", x.bar(0, 4), 0);
        x.set(1, 1, 0, 0);
        Check.is("b behind an open switch", x.bar(1, 4), 0);
        x.set(1, 2, 0, 1);
        Check.is("f", x.bar(5, 4), 1);
        Check.is("e", x.bar(4, 4), 1);
        Check.is("d", x.bar(3, 4), 2);
        x.set(3, 0, 0, 0);
        Check.is("d without a machine that is ON", x.bar(3, 4), 0);
    }
}
