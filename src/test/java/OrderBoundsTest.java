/** Each boundary that the document names for rules, orders and restoring: section 7, promises 5, 6, 47 to 50. */
public final class OrderBoundsTest {
    private static final String NET = "bar a;bar b;bar c;switch s a b open 1;switch t b c closed 1;line l a c 1 1 3;"
            + "machine g a 1 1 0 9 1 1 1 1;load p c 3;";
    /** b to f hang on a over a switch each; the loads are 1, 2, 4, 8, 16. */
    private static final String STAR = "bar a;bar b;bar c;bar d;bar e;bar f;switch s a b open 1;switch t a c open 1;"
            + "switch u a d open 1;switch v a e open 1;switch w a f open 1;machine g a 1 1 0 99 1 1 1 1;"
            + "load o b 1;load p c 2;load q d 4;load r e 8;load i f 16;";

    private OrderBoundsTest() {
    }

    public static void main(String[] args) {
        ruleCount();
        ruleWords();
        brackets();
        objects();
        numbers();
        comparisons();
        stuckOver();
        loops();
        joints();
        aheadAndBehind();
        orderCount();
        orderWords();
        changesNothing();
        firstRules();
        carries();
        rowsOfN();
        firstEight();
        noneOver();
        noneStuck();
        noneBarred();
        best();
        steps();
        overAhead();
        oldTexts();
        longTexts();
        Check.close("OrderBoundsTest");
    }

    private static void rule(String text, int due) {
        GridHouse x = Check.house(NET);
        Check.is("rules " + text, Check.rules(x, text), due);
        Check.is("the tape", x.count(9), 0);
        Check.is("count", x.count(7), Math.max(due, 0));
    }

    private static String many(String text, int n) {
        StringBuilder t = new StringBuilder();
        for (int i = 0; i < n; i++) {
            t.append(text);
        }
        return t.toString();
    }

    private static void ruleCount() {
        Check.sentence("RULES (12 at most; the 13th is wrong at its first word)");
        String one = "no tag if lost is 1;\n";
        for (int n = 0; n <= 12; n++) {
            rule(many(one, n), n);
        }
        int length = many(one, 12).length();
        for (String more : new String[] {one, "no", "x", ";", "no tag if", "(", "no tag if lost is 1; no"}) {
            rule(many(one, 12) + more, -1 - length);
            rule(many(one, 12) + "  " + more, -3 - length);
            rule(many(one, 11) + more.replace(one, "no no"), more.equals(one) ? -1 - (length - 21) - 3
                    : rulesOf(many(one, 11) + more));
        }
        // the twelfth is asked, too
        GridHouse x = Check.house(NET);
        Check.is("rules", Check.rules(x, many(one, 11) + "no close if lost is 0;"), 12);
        Check.order(x, "close s;");
        Check.is("barred by the last one", x.barred(1), 11);
        Check.sentence("in place of those there were");
        Check.is("rules", Check.rules(x, ""), 0);
        Check.is("no rules", x.count(7), 0);
        Check.is("barred", x.barred(0), -1);
    }

    private static int rulesOf(String text) {
        return Check.rules(Check.house(NET), text);
    }

    private static void ruleWords() {
        Check.sentence("or the text's length, if it ends within a statement: rules");
        String text = "no open if not then joined from a or ( lost above 5 and closed it ) and not tagged s ; "
                + "no earth if live it or then over is 0 ;";
        int rules = 0;
        for (int at = 0; at <= text.length(); at++) {
            if (at == text.length() || text.charAt(at) == ' ') {
                boolean within = at > 0 && text.charAt(at - 1) != ';';
                rules += at > 0 && !within ? 1 : 0;
                rule(text.substring(0, at), within ? -1 - at : rules);
                rule(text.substring(0, at) + "\n ", within ? -1 - at - 2 : rules);
                rule(text.substring(0, at) + " ?", -1 - at - 1);
                rule(text.substring(0, at) + " ifs", -1 - at - 1);
            }
        }
        Check.is("both were read", rules, 2);
        Check.sentence("no ACT if COND ;");
        for (String act : new String[] {"open", "close", "earth", "free", "tag", "untag"}) {
            rule("no " + act + " if lost is 1;", 1);
        }
        for (String none : new String[] {"opens", "closed", "earthed", "tagged", "live", "s", "a", "it", "if", "no",
                "1", "not"}) {
            rule("no " + none + " if lost is 1;", -4);
        }
        for (String pred : new String[] {"open", "close", "earth", "free", "tag", "s", "a", "it", "if", "no", "is",
            "above", "and", "or", "bar", "1", ";", ")", "from"}) {
            rule("no tag if " + pred + " s;", -11);
            rule("no tag if not " + pred + " s;", -15);
            rule("no tag if then " + pred + " s;", -16);
            rule("no tag if ( " + pred + " s;", -13);
        }
        Check.sentence("ONE: perhaps not; behind it either ( COND ), or PRED, perhaps with then right before it");
        rule("no tag if not not lost is 1;", -15);
        rule("no tag if then then lost is 1;", -16);
        rule("no tag if then not lost is 1;", -16);
        rule("no tag if then ( lost is 1 );", -16);
        rule("no tag if not then lost is 1;", 1);
        rule("no tag if not ( not ( not then lost is 1 ) );", 1);
        rule("no tag if ();", -12);
        rule("no tag if (lost is 1;", -21);
        rule("no tag if lost is 1);", -20);
        rule("no tag if (lost is 1));", -22);
        rule("no tag if (lost is 1)(lost is 1);", -22);
        rule("no tag if (lost is 1) not lost is 1;", -23);
        rule("no tag if lost is 1 and;", -24);
        rule("no tag if lost is 1 and and lost is 1;", -25);
        rule("no tag if lost is 1,", -20);
    }

    private static void brackets() {
        Check.sentence("( COND ), within eight such at most (the ninth is wrong at its bracket)");
        String head = "no tag if ";
        for (int n = 0; n <= 10; n++) {
            String text = head + many("(", n) + "lost is 1" + many(")", n) + ";";
            rule(text, n <= 8 ? 1 : -1 - head.length() - 8);
            text = head + many("not ( ", n) + "lost is 1" + many(")", n) + ";";
            rule(text, n <= 8 ? 1 : -1 - head.length() - 8 * 6 - 4);
            text = head + many("lost is 1 or (", n) + "lost is 1" + many(")", n) + ";";
            rule(text, n <= 8 ? 1 : -1 - head.length() - 8 * 14 - 13);
        }
        String eight = many("(", 8) + "lost is 1" + many(")", 8);
        rule(head + eight + " or " + eight + " and not " + eight + ";", 1);
        rule(head + eight + " or (" + eight + ");", -1 - (head + eight + " or ").length() - 8);
        // one closed, two opened
        String seven = many("(", 8) + "lost is 1) and ";
        rule(head + seven + "(lost is 1)" + many(")", 7) + ";", 1);
        rule(head + seven + "((lost is 1))" + many(")", 7) + ";", -1 - (head + seven).length() - 1);
        rule(head + eight + ");", -1 - (head + eight).length());
        // what stands within eight brackets is asked
        for (int value = 0; value <= 1; value++) {
            GridHouse x = Check.house(NET);
            Check.rules(x, "no close if " + many("not (", 8) + "lost is " + value + many(")", 8) + ";");
            Check.order(x, "close s;");
            Check.is("barred", x.barred(0), value == 0 ? 0 : -1);
            Check.rules(x, "no close if not " + many("(", 8) + "lost is " + value + many(")", 8) + ";");
            Check.is("barred", x.barred(0), value == 0 ? -1 : 0);
        }
    }

    private static void objects() {
        Check.sentence("W: the name of such an object, or it, or, of a switch, from and to;"
                + " W must be of the sort that is told");
        String[] acts = {"open", "close", "tag", "untag", "earth", "free"};
        String[] preds = {"closed", "tagged", "live", "earthed"};
        String[] words = {"s", "a", "it", "from", "to", "l", "g", "p", "q", "bar", "1", "is", ";", "("};
        for (int act = 0; act < 6; act++) {
            boolean ofSwitch = act < 4;
            for (int pred = 0; pred < 4; pred++) {
                boolean asksSwitch = pred < 2;
                for (int w = 0; w < words.length; w++) {
                    boolean good = w == 0 ? asksSwitch : w == 1 ? !asksSwitch : w == 2 ? asksSwitch == ofSwitch
                            : w < 5 && !asksSwitch && ofSwitch;
                    String head = "no " + acts[act] + " if " + preds[pred] + " ";
                    rule(head + words[w] + ";", good ? 1 : -1 - head.length());
                    head = "no " + acts[act] + " if not then " + preds[pred] + " ";
                    rule(head + words[w] + ";", good ? 1 : -1 - head.length());
                }
            }
            for (int w = 0; w < words.length; w++) {
                boolean good = w == 1 || w == 2 && !ofSwitch || w > 2 && w < 5 && ofSwitch;
                String head = "no " + acts[act] + " if joined ";
                rule(head + words[w] + " b;", good ? 1 : -1 - head.length());
                rule(head + "b " + words[w] + ";", good ? 1 : -1 - head.length() - 2);
            }
        }
        rule("no tag if joined a a;", 1);
        rule("no tag if joined a;", -19);
        rule("no tag if joined a b c;", -22);
        rule("no tag if live a b;", -18);
    }

    private static void numbers() {
        Check.sentence("lost OP NUMBER, over OP NUMBER, loops OP NUMBER; OP: above, below, is");
        for (String pred : new String[] {"lost", "over", "loops"}) {
            for (String op : new String[] {"above", "below", "is"}) {
                String head = "no tag if " + pred + " " + op + " ";
                for (String n : new String[] {"0", "1", "999999", "000000", "12345"}) {
                    rule(head + n + ";", 1);
                    rule("no tag if then " + pred + " " + op + " " + n + ";", 1);
                }
                for (String n : new String[] {"0000000", "1000000", "x", "1a", "a1", "it", "-1", ";", "is"}) {
                    rule(head + n + ";", -1 - head.length());
                }
            }
            for (String op : new String[] {"equals", "0", "it", "a", "not", ";", "abov", "aboves", "="}) {
                rule("no tag if " + pred + " " + op + " 1;", -1 - ("no tag if " + pred + " ").length());
            }
        }
    }

    /** Whether closing s is barred by a condition, in a house made for it. */
    private static boolean bars(Told.Maker maker, String condition) {
        return bars(maker.make(), condition);
    }

    private static boolean bars(GridHouse x, String condition) {
        Check.is("rules " + condition, Check.rules(x, "no close if " + condition + ";"), 1);
        Check.order(x, "close s;");
        boolean barred = x.barred(0) == 0;
        Check.is("the rule", x.barred(1), barred ? 0 : -1);
        return barred;
    }

    private static void compare(Told.Maker x, String what, int value) {
        for (int n = Math.max(0, value - 2); n <= value + 2; n++) {
            Check.is(what + " above " + n, bars(x, what + " above " + n), value > n);
            Check.is(what + " below " + n, bars(x, what + " below " + n), value < n);
            Check.is(what + " is " + n, bars(x, what + " is " + n), value == n);
            Check.is("not " + what + " is " + n, bars(x, "not " + what + " is " + n), value != n);
        }
        Check.is(what + " below 999999", bars(x, what + " below 999999"), true);
        Check.is(what + " above 999999", bars(x, what + " above 999999"), false);
    }

    /** A house with fields set: each of a sort, an object, a field, and what it becomes. */
    private static Told.Maker made(String net, int[]... fields) {
        return () -> {
            GridHouse x = Check.house(net);
            for (int[] f : fields) {
                x.set(f[0], f[1], f[2], f[3]);
            }
            return x;
        };
    }

    private static void comparisons() {
        Check.sentence("LOST; how many lines are OVER; of the net ahead of the step, with then of the net behind it");
        Told.Maker x = made(STAR);
        compare(x, "lost", 31);
        compare(x, "then lost", 30);
        x = made(STAR, new int[] {4, 0, 0, 9999});
        compare(x, "lost", 10029);
        compare(x, "then lost", 30);
        String net = NET + "bar d;load q b 0;line m a c 1 1 1;line n a c 1 1 0;";
        x = made(net);
        compare(x, "over", 1);
        compare(x, "then over", 0);
        compare(made(net, new int[] {2, 1, 3, 0}), "over", 2);
        compare(made(net, new int[] {2, 1, 3, 0}, new int[] {2, 0, 3, 0}), "over", 3);
        compare(made(net, new int[] {2, 0, 3, 0}, new int[] {4, 0, 0, 0}), "over", 0);
    }

    private static void stuckOver() {
        Check.sentence("how many lines are OVER (100 with an island STUCK)");
        String net = STAR + "bar z;machine h z 1 1 0 9 1 1 1 0;load y z 0;";
        Told.Maker x = made(net);
        compare(x, "over", 0);
        compare(x, "then over", 0);
        x = made(net, new int[] {4, 5, 0, 1});
        Check.is("one STUCK", x.make().count(13), 1);
        compare(x, "over", 100);
        compare(x, "then over", 100);
        x = made(net, new int[] {3, 0, 9, 0});
        Check.is("g alone is balanced", x.make().count(13), 0);
        compare(x, "over", 0);
        compare(x, "then over", 100);
        x = made(net, new int[] {3, 0, 9, 0}, new int[] {3, 0, 1, 1});
        compare(x, "over", 100);
        compare(x, "then over", 0);
        // k and m are OVER in an island of their own
        String over = "bar j;bar x;line k j x 1 1 2;line m j x 1 1 2;machine n j 1 1 0 9 1 1 1 1;load l x 6;";
        x = made(net + over);
        compare(x, "over", 2);
        x = made(net + over, new int[] {4, 5, 0, 1});
        Check.is("one STUCK", x.make().count(13), 1);
        Check.is("two OVER beside it", x.make().count(14), 2);
        compare(x, "over", 100);
        compare(x, "then over", 100);
        x = made(net + over, new int[] {4, 5, 0, 1}, new int[] {3, 0, 9, 0}, new int[] {3, 0, 1, 1});
        Check.is("two STUCK", x.make().count(13), 2);
        compare(x, "over", 100);
    }

    private static void loops() {
        Check.sentence("how many more closed switches and lines that are IN there are than are needed to join what "
                + "they join");
        Told.Maker x = made(NET);
        compare(x, "loops", 0);
        compare(x, "then loops", 1);
        compare(made(NET, new int[] {2, 0, 0, 0}), "then loops", 0);
        compare(made(NET, new int[] {2, 0, 0, 0}, new int[] {1, 1, 0, 2}), "then loops", 0);
        compare(made(NET, new int[] {1, 1, 0, 2}), "then loops", 0);
        String net = "bar a;bar b;bar c;bar d;switch s a b open 1;switch t a b closed 1;switch u a b closed 1;"
                + "line l a b 1 1 1;line m c d 1 1 1;line n c d 1 1 1;line k c d 1 1 1;";
        // 6 things, 2 needed
        compare(made(net), "loops", 4);
        compare(made(net), "then loops", 5);
        compare(made(net, new int[] {1, 1, 0, 2}), "loops", 3);
        x = made(net, new int[] {1, 1, 0, 2}, new int[] {2, 1, 0, 0}, new int[] {2, 2, 0, 0});
        compare(x, "loops", 1);
        x = made(net, new int[] {1, 1, 0, 2}, new int[] {2, 1, 0, 0}, new int[] {2, 2, 0, 0}, new int[] {2, 3, 0, 0});
        compare(x, "loops", 1);
        compare(x, "then loops", 2);
    }

    private static void joints() {
        Check.sentence("COND: one or more ALL with or between; ALL: one or more ONE with and between");
        // all texts of three PREDs with and, or, not: the value of lost is 31 tells true, of lost is 0 false
        String[] values = {"lost is 0", "lost is 31"};
        Told.Maker x = made(STAR);
        for (int i = 0; i < 8; i++) {
            String p = values[i & 1];
            String q = values[i >> 1 & 1];
            String r = values[i >> 2 & 1];
            boolean a = (i & 1) == 1;
            boolean b = (i >> 1 & 1) == 1;
            boolean c = (i >> 2 & 1) == 1;
            Check.is("and or " + i, bars(x, p + " and " + q + " or " + r), a && b || c);
            Check.is("or and " + i, bars(x, p + " or " + q + " and " + r), a || b && c);
            Check.is("(or) and " + i, bars(x, "(" + p + " or " + q + ") and " + r), (a || b) && c);
            Check.is("and (or) " + i, bars(x, p + " and (" + q + " or " + r + ")"), a && (b || c));
            Check.is("not and " + i, bars(x, "not " + p + " and " + q + " and " + r), !a && b && c);
            Check.is("or not or " + i, bars(x, p + " or not " + q + " or " + r), a || !b || c);
            Check.is("not (or) " + i, bars(x, "not (" + p + " or " + q + ") or " + r), !(a || b) || c);
            Check.is("not (not and) " + i, bars(x, "not (not " + p + " and " + q + ") and " + r), !(!a && b) && c);
            Check.is("or (and) or " + i, bars(x, p + " or (" + q + " and not " + r + ")"), a || b && !c);
        }
        StringBuilder t = new StringBuilder("lost is 0");
        for (int i = 0; i < 150; i++) {
            t.append(i % 2 == 0 ? " or lost is 0" : " and lost is 31");
        }
        Check.is("a long row", bars(x, t.toString()), false);
        Check.is("a long row", bars(x, t + " or lost is 31"), true);
        Check.is("a long row", bars(x, t + " or not lost is 0 and lost is 31"), true);
    }

    private static void aheadAndBehind() {
        Check.sentence("PRED is asked of the net ahead of the step, with then of the net behind it");
        Told.Maker x = made(STAR);
        String[] asked = {"closed it", "joined from to", "joined to from", "live to", "live b", "joined a b"};
        for (String pred : asked) {
            Check.is(pred, bars(x, pred), false);
            Check.is("then " + pred, bars(x, "then " + pred), true);
        }
        Check.is("from is end 0", bars(x, "live from"), true);
        Check.is("from is a", bars(x, "joined from a"), true);
        Check.is("to is b", bars(x, "joined to b"), true);
        Check.is("not closed by 2", bars(x, "closed t"), false);
        x = made(STAR, new int[] {1, 1, 0, 2});
        Check.is("unknown is not closed", bars(x, "closed t"), false);
        x = made(STAR, new int[] {1, 1, 0, 1});
        Check.is("closed", bars(x, "closed t"), true);
        for (String act : new String[] {"tag", "earth"}) {
            GridHouse y = Check.house(STAR);
            String pred = act.equals("tag") ? "tagged it" : "earthed it";
            Check.rules(y, "no " + act + " if " + pred + ";");
            Check.order(y, act.equals("tag") ? "tag s;" : "earth b;");
            Check.is("not ahead", y.barred(0), -1);
            Check.rules(y, "no " + act + " if then " + pred + ";");
            Check.is("behind", y.barred(0), 0);
            Check.rules(y, "no " + act + " if not " + pred + ";");
            Check.is("not ahead", y.barred(0), 0);
            Check.rules(y, "no untag if then lost is 31;no free if then lost is 31;no close if lost is 31;");
            Check.is("of other ACTS", y.barred(0), -1);
        }
    }

    private static void order(String text, int due) {
        GridHouse x = Check.house(NET);
        Check.is("order " + text, Check.order(x, text), due);
        Check.is("the tape", x.count(9), 0);
        Check.is("count", x.count(8), Math.max(due, 0));
    }

    private static void orderCount() {
        Check.sentence("AN ORDER (24 steps at most; likewise)");
        String one = "tag s;untag s;";
        for (int n = 0; n <= 12; n++) {
            order(many(one, n), 2 * n);
            order(many(one, n) + (n < 12 ? "open s;" : ""), 2 * n + (n < 12 ? 1 : 0));
        }
        int length = many(one, 12).length();
        for (String more : new String[] {one, "tag", "x", ";", "tag tag", "("}) {
            order(many(one, 12) + more, -1 - length);
            order(many(one, 12) + "\n" + more, -2 - length);
        }
        GridHouse x = Check.house(NET);
        Check.is("order", Check.order(x, many(one, 12)), 24);
        Check.is("none is barred", x.barred(0), -1);
        Check.is("all are done", x.carry(), 24);
        Check.is("order", Check.order(x, many(one, 11) + "tag s;tag s;"), 24);
        Check.is("the last one", x.barred(0), 23);
        Check.is("all but the last", x.carry(), 23);
        Check.sentence("in place of those there were");
        Check.is("order", Check.order(x, ""), 0);
        Check.is("no steps", x.count(8), 0);
        Check.is("none is barred", x.barred(0), -1);
        Check.is("none is barred", x.barred(1), -1);
        Check.is("none is done", x.carry(), 0);
    }

    private static void orderWords() {
        Check.sentence("open S ; close S ; earth B ; free B ; tag S ; untag S ;");
        String[] acts = {"open", "close", "tag", "untag", "earth", "free"};
        for (int act = 0; act < 6; act++) {
            String head = acts[act] + " ";
            order(head + "s;", act < 4 ? 1 : -1 - head.length());
            order(head + "t;", act < 4 ? 1 : -1 - head.length());
            order(head + "a;", act < 4 ? -1 - head.length() : 1);
            order(head + "c;", act < 4 ? -1 - head.length() : 1);
            for (String none : new String[] {"l", "g", "p", "x", "it", "from", "to", "1", ";", "bar", "open"}) {
                order(head + none + ";", -1 - head.length());
            }
            String good = head + (act < 4 ? "s" : "a");
            order(acts[act], -1 - acts[act].length());
            order(head, -1 - head.length());
            order(good, -1 - good.length());
            order(good + " ", -2 - good.length());
            order(good + ",", -1 - good.length());
            order(good + " s;", -2 - good.length());
            order(good + ";;", -2 - good.length());
        }
        for (String none : new String[] {"closed", "opens", "earthed", "tagged", "live", "s", "no", "1", ";", "it"}) {
            order(none + " s;", -1);
        }
    }

    private static void changesNothing() {
        Check.sentence("A step is BARRED, if it changes nothing, else if some rule has its ACT and COND holds");
        for (int state = 0; state <= 2; state++) {
            GridHouse x = Check.house(NET);
            x.set(1, 0, 0, state);
            Check.rules(x, "no open if lost above 0 or lost is 0;no close if lost above 0 or lost is 0;");
            Check.order(x, "open s;");
            Check.is("open with STATE " + state, x.barred(0), 0);
            Check.is("by the rule, or for it changes nothing", x.barred(1), state == 0 ? -1 : 0);
            Check.order(x, "close s;");
            Check.is("close with STATE " + state, x.barred(0), 0);
            Check.is("by the rule, or for it changes nothing", x.barred(1), state == 1 ? -1 : 1);
            Check.rules(x, "");
            Check.order(x, "open s;");
            Check.is("open", x.barred(0), state == 0 ? 0 : -1);
            Check.is("carry", x.carry(), state == 0 ? 0 : 1);
            Check.sentence("STATE becomes 0, 1");
            Check.is("STATE", x.get(1, 0, 0), 0);
            x.set(1, 0, 0, state);
            Check.order(x, "close s;");
            Check.is("carry", x.carry(), state == 1 ? 0 : 1);
            Check.is("STATE", x.get(1, 0, 0), 1);
        }
        GridHouse x = Check.house(NET);
        String[] undo = {"free a;", "untag t;"};
        String[] act = {"earth a;", "tag t;"};
        for (int i = 0; i < 2; i++) {
            Check.order(x, undo[i]);
            Check.is("changes nothing", x.barred(0), 0);
            Check.order(x, act[i]);
            Check.is("changes something", x.barred(0), -1);
            Check.is("carry", x.carry(), 1);
            Check.is("changes nothing now", x.barred(0), 0);
            Check.is("carry", x.carry(), 0);
            Check.is("EARTHED, TAGGED", i == 0 ? x.get(0, 0, 0) : x.get(1, 1, 2), 1);
            Check.order(x, undo[i]);
            Check.is("changes something", x.carry(), 1);
            Check.is("EARTHED, TAGGED", i == 0 ? x.get(0, 0, 0) : x.get(1, 1, 2), 0);
        }
    }

    private static void firstRules() {
        Check.sentence("Promise 47: NONE, if none is BARRED; else the first one that is;"
                + " the first rule by which it is");
        GridHouse x = Check.house(NET);
        Check.rules(x, "no tag if lost is 1;no tag if lost is 0 and tagged t;no untag if lost is 0;"
                + "no tag if lost is 0;");
        Check.order(x, "tag s;");
        Check.is("step", x.barred(0), 0);
        Check.is("rule", x.barred(1), 3);
        Check.order(x, "earth a;earth b;free a;tag s;untag s;");
        Check.is("step", x.barred(0), 3);
        Check.is("rule", x.barred(1), 3);
        Check.order(x, "earth a;free b;tag s;");
        Check.is("it changes nothing", x.barred(0), 1);
        Check.is("it changes nothing", x.barred(1), -1);
        Check.order(x, "earth a;");
        Check.is("none", x.barred(0), -1);
        Check.is("none", x.barred(1), -1);
        Check.is("the net stays", x.get(0, 0, 0), 0);
        for (int what : new int[] {-1, 2}) {
            Check.refuses("what", Check.ARGUMENT, () -> x.barred(what));
        }
    }

    private static void carries() {
        Check.sentence("Promise 48: up to the first BARRED one: how many were done; CHANGES THE NET, if one was done");
        GridHouse x = Check.house(NET);
        x.shortAt(0, 0, 0);
        x.begin();
        Check.is("no order", x.carry(), 0);
        Check.is("the RUN is there", x.run(0), 0);
        Check.order(x, "free a;earth a;");
        Check.is("the first is BARRED", x.carry(), 0);
        Check.is("nothing behind it is done", x.get(0, 0, 0), 0);
        Check.is("the RUN is there", x.run(0), 0);
        Check.order(x, "earth a;free b;earth c;");
        Check.is("one", x.carry(), 1);
        Check.is("it is done", x.get(0, 0, 0), 1);
        Check.is("nothing behind the BARRED one", x.get(0, 2, 0), 0);
        Check.refuses("the RUN is not there", Check.STATE, () -> x.run(0));
        Check.is("the order stays", x.count(8), 3);
        Check.is("the SHORT stays", x.clearShort(), true);
        Check.order(x, "earth b;earth c;free a;");
        Check.is("all", x.carry(), 3);
        Check.is("the order stays", x.count(8), 3);
    }

    private static void found(GridHouse x, int n, int... due) {
        Check.is("restore " + n, x.restore(n), due.length);
        for (int k = -1; k <= 4; k++) {
            Check.is("step " + k, x.step(k), k >= 0 && k < due.length ? due[k] : -1);
        }
    }

    private static void rowsOfN() {
        Check.sentence("of all rows of n or fewer of them, each at most once; n is not 1 .. 3");
        GridHouse x = Check.house(STAR);
        found(x, 1, 4);
        found(x, 2, 3, 4);
        found(x, 3, 2, 3, 4);
        for (int n : new int[] {0, 4, -1}) {
            Check.refuses("restore", Check.ARGUMENT, () -> x.restore(n));
            Check.is("the latest stays", x.step(0), 2);
        }
        x.set(1, 4, 0, 1);
        found(x, 3, 1, 2, 3);
        x.set(1, 3, 0, 1);
        found(x, 3, 0, 1, 2);
        x.set(1, 2, 0, 1);
        found(x, 3, 0, 1);
        found(x, 2, 0, 1);
        found(x, 1, 1);
        x.set(1, 1, 0, 1);
        found(x, 3, 0);
        x.set(1, 0, 0, 1);
        Check.sentence("The empty row is one");
        found(x, 3);
        GridHouse y = new GridHouse();
        found(y, 1);
        Check.sentence("the net stays");
        Check.is("STATE", Check.house(STAR).get(1, 0, 0), 0);
        GridHouse z = Check.house(STAR);
        z.shortAt(0, 0, 0);
        z.begin();
        z.restore(3);
        Check.is("STATE", z.get(1, 4, 0), 0);
        Check.is("LOST", z.count(15), 31);
        Check.is("the RUN", z.run(0), 0);
    }

    private static String nine(int count) {
        StringBuilder t = new StringBuilder("bar a;bar b;bar c;");
        for (int i = 0; i < count - 1; i++) {
            t.append("switch s").append(i).append(" a b open 1;");
        }
        return t + "switch last a c open 1;machine g a 1 1 0 9 1 1 1 1;load p c 3;";
    }

    private static void firstEight() {
        Check.sentence("of the switches whose STATE is 0, and that are not TAGGED, the first eight");
        found(Check.house(nine(7)), 1, 6);
        found(Check.house(nine(8)), 1, 7);
        found(Check.house(nine(9)), 1);
        found(Check.house(nine(9)), 3);
        found(Check.house(nine(24)), 3);
        for (int which = 0; which < 8; which += 7) {
            for (int state = 1; state <= 2; state++) {
                GridHouse x = Check.house(nine(9));
                x.set(1, which, 0, state);
                found(x, 2, 8);
            }
            GridHouse x = Check.house(nine(9));
            Check.order(x, "tag s" + which + ";");
            x.carry();
            found(x, 2, 8);
        }
        GridHouse x = Check.house(nine(9));
        Check.order(x, "tag s3;tag last;");
        x.carry();
        found(x, 2);
        x.set(1, 8, 0, 2);
        Check.order(x, "untag last;");
        x.carry();
        found(x, 2);
        GridHouse y = Check.house(nine(24));
        for (int s = 0; s < 16; s++) {
            y.set(1, s, 0, 2 - s % 2);
        }
        found(y, 3, 23);
        y.set(1, 15, 0, 0);
        found(y, 3);
    }

    private static void noneOver() {
        Check.sentence("no line OVER behind each of them");
        // b is reached over one line or the other; both together carry half each
        GridHouse x = Check.house("bar a;bar b;bar c;bar d;switch s a c open 1;switch t a d open 1;line l c b 1 1 9;"
                + "line m d b 1 1 9;machine g a 1 1 0 99 1 1 1 1;load p b 10;load q d 1;");
        found(x, 3);
        x.set(2, 1, 3, 10);
        // t alone is free; s with it helps no more
        found(x, 3, 1);
        found(x, 1, 1);
        x.set(2, 1, 3, 9);
        x.set(2, 0, 3, 11);
        // s alone brings both back, 11 over l, 1 over m
        found(x, 3, 0);
        x.set(2, 0, 3, 10);
        found(x, 3);
        Check.sentence("the empty row is free, whatever is OVER now");
        GridHouse y = Check.house("bar a;bar b;bar c;switch s a c open 1;line l a b 1 1 4;machine g a 1 1 0 99 1 1 1 1;"
                + "load p b 5;load q c 7;");
        Check.is("OVER", y.count(14), 1);
        found(y, 3);
        y.set(2, 0, 3, 5);
        found(y, 3, 0);
    }

    private static void noneStuck() {
        Check.sentence("no island STUCK behind each of them");
        GridHouse x = Check.house(STAR);
        x.set(3, 0, 9, 0);
        found(x, 3);
        x.set(3, 0, 1, 16);
        // w alone balances g
        Check.is("STUCK now", x.count(13), 1);
        found(x, 3, 4);
        x.set(3, 0, 1, 24);
        found(x, 3);
        x.set(3, 0, 9, 1);
        found(x, 3, 2, 3, 4);
    }

    private static void noneBarred() {
        Check.sentence("none BARRED");
        GridHouse x = Check.house(STAR);
        Check.rules(x, "no close if joined to f;");
        x.restore(1);
        // to is f ahead of closing w
        found(x, 1, 3);
        Check.rules(x, "no close if then lost below 15;");
        found(x, 3, 4);
        Check.rules(x, "no close if then lost below 16 or lost is 31 and joined to f;");
        found(x, 3, 1, 2, 3);
        Check.rules(x, "no open if lost above 0;no tag if lost above 0;");
        found(x, 1, 4);
        Check.rules(x, "no close if lost above 0;");
        found(x, 3);
        Check.sentence("closed one after the other");
        Check.rules(x, "no close if joined to d and not closed w;no close if joined to e and not closed u;");
        found(x, 3, 4, 2, 3);
        found(x, 2, 4, 2);
    }

    private static void best() {
        Check.sentence("with which the least is LOST in the end; of these the shortest;"
                + " of these the first by the numbers");
        GridHouse x = Check.house(STAR);
        // c and d alike
        x.set(4, 1, 0, 4);
        x.set(4, 3, 0, 0);
        x.set(4, 4, 0, 0);
        found(x, 1, 1);
        found(x, 2, 1, 2);
        found(x, 3, 0, 1, 2);
        x.set(4, 0, 0, 0);
        found(x, 3, 1, 2);
        x.set(4, 2, 0, 0);
        found(x, 3, 1);
        x.set(4, 1, 0, 0);
        found(x, 3);
        // a longer row that leaves 1 less
        x.set(4, 4, 0, 9);
        x.set(4, 0, 0, 5);
        x.set(4, 1, 0, 5);
        found(x, 1, 4);
        found(x, 2, 0, 4);
        x.set(1, 4, 0, 2);
        found(x, 2, 0, 1);
    }

    private static void overAhead() {
        Check.sentence("PRED is asked of the net ahead of the step, in a row to restore, too");
        GridHouse x = Check.house(STAR + "line l a b 1 1 0;");
        x.set(2, 0, 0, 0);
        String[] none = {"over is 0", "over below 1", "loops is 0", "lost is 31", "live from", "not live to",
                "not joined from to"};
        for (String pred : none) {
            Check.rules(x, "no close if " + pred + ";");
            found(x, 3);
        }
        String[] all = {"over above 0", "over is 1", "over is 100", "loops above 0", "lost is 0", "live to",
                "closed it", "tagged it"};
        for (String pred : all) {
            Check.rules(x, "no close if " + pred + ";");
            found(x, 3, 2, 3, 4);
        }
        Check.sentence("each ahead of its own step: the second one, too");
        Check.rules(x, "no close if lost is 15 or lost is 23;");
        found(x, 2, 2, 4);
        Check.rules(x, "no close if closed w or closed v and joined to d;");
        found(x, 3, 2, 3, 4);
        found(x, 2, 3, 4);
        // now and then lines are OVER: only the first step may be taken with none
        x.set(2, 0, 0, 1);
        Check.is("OVER", x.count(14), 1);
        Check.rules(x, "no close if over is 1;");
        found(x, 3);
        Check.rules(x, "no close if over is 0;");
        found(x, 1);
        x.set(4, 0, 0, 0);
        found(x, 1);
        Check.rules(x, "no close if over is 1;");
        found(x, 1, 4);
    }

    private static void oldTexts() {
        Check.sentence("Promise 5: THE TAPE is read as rules, in place of those there were");
        GridHouse x = Check.house(NET);
        Check.order(x, "close s;");
        String two = "no tag if lost is 1;no close if lost is 0;";
        String one = "no tag if lost is 1;";
        for (int turn = 0; turn < 3; turn++) {
            Check.is("two", Check.rules(x, two), 2);
            Check.is("barred", x.barred(1), 1);
            Check.is("one", Check.rules(x, one), 1);
            Check.is("not barred", x.barred(0), -1);
            Check.is("one", Check.rules(x, one), 1);
            Check.is("not barred", x.barred(0), -1);
        }
        Check.sentence("With a FAULT they stay");
        Check.is("rules", Check.rules(x, one + "no close if lost is 0;"), 2);
        for (String wrong : new String[] {"no close if not not", "no open if lost is 0;no",
            "no close if not (not (lost is 1 and", "no tag if (lost is 1) and (lost is 2",
            "no close if lost is 1;no close if lost is 2;no close if lost is 3;x"}) {
            Check.is("rules " + wrong, Check.rules(x, wrong) < 0, true);
            Check.is("they stay", x.count(7), 2);
            Check.is("they stay", x.barred(1), 1);
            Check.is("a rule behind a FAULT", bars(x, "not (lost is 1) and lost is 0"), true);
            Check.is("a rule behind a FAULT", bars(x, "lost is 1 or lost is 2"), false);
            Check.is("rules", Check.rules(x, one + "no close if lost is 0;"), 2);
        }
        Check.is("order", Check.order(x, "tag s;close s;"), 2);
        for (String wrong : new String[] {"earth a;earth b;earth c;x", "tag t;tag", "open t;open a;"}) {
            Check.is("order " + wrong, Check.order(x, wrong) < 0, true);
            Check.is("they stay", x.count(8), 2);
            Check.is("they stay", x.barred(0), 1);
        }
        Check.sentence("Promise 49: of the switches of the net as it is");
        GridHouse y = Check.house("bar a;bar b;switch s a b open 1;machine g a 1 1 0 9 1 1 1 1;load p b 5;");
        Check.is("restore", y.restore(1), 1);
        Check.net(y, "bar a;bar b;machine g a 1 1 0 9 1 1 1 1;load p b 5;");
        Check.is("no switch", y.restore(1), 0);
        GridHouse z = Check.house(nine(24));
        for (int s = 0; s < 24; s++) {
            z.set(1, s, 0, 2);
        }
        Check.is("none of 24 is open", z.restore(3), 0);
        z.set(1, 23, 0, 0);
        found(z, 3, 23);
    }

    /** Rules that fill the tape to its last byte, with as many PREDs as can be: the last one decides. */
    private static void longTexts() {
        Check.sentence("THE TAPE may have 4000 bytes, all of them of one rule, or of twelve");
        for (int rules = 1; rules <= 12; rules += 11) {
            for (int value = 0; value <= 1; value++) {
                StringBuilder t = new StringBuilder();
                for (int i = 1; i <= rules; i++) {
                    t.append("no close if live b");
                    while (t.length() + 10 + 14 <= 4000 * i / rules) {
                        t.append(" or live b");
                    }
                    String last = " or lost is " + (i < rules ? 9 : 31 * value) + ";";
                    while (t.length() + last.length() < 4000 * i / rules) {
                        t.append(" ");
                    }
                    t.append(last);
                }
                GridHouse x = Check.house(STAR);
                Check.is("as long as the tape", t.length(), 4000);
                Check.is("rules", Check.rules(x, t.toString()), rules);
                Check.order(x, "close s;");
                Check.is("the last PRED", x.barred(1), value == 1 ? rules - 1 : -1);
                String cut = t.substring(0, 3999);
                Check.is("without its last byte", Check.rules(x, cut), -4000);
                Check.is("they stay", x.count(7), rules);
                Check.is("with another last byte", Check.rules(Check.house(STAR), cut + ")"), -4000);
            }
        }
        StringBuilder order = new StringBuilder();
        while (order.length() < 3992) {
            order.append(order.length() % 2 == 0 ? " " : "\n");
        }
        GridHouse x = Check.house(STAR);
        Check.is("an order at the end", Check.order(x, order + "untag t;"), 1);
        Check.is("no such switch", Check.order(x, order + "tag  ab;"), -1 - 3997);
        Check.is("count", x.count(8), 1);
    }

    private static void steps() {
        Check.sentence("Promise 50: switch k that the latest restore() found; NONE: none such (none since net())");
        GridHouse x = Check.house(STAR);
        Check.is("none yet", x.step(0), -1);
        found(x, 3, 2, 3, 4);
        for (int k : new int[] {3, 4, -1, 1 << 30, Integer.MIN_VALUE, Integer.MAX_VALUE}) {
            Check.is("step", x.step(k), -1);
        }
        x.set(1, 4, 0, 1);
        Check.is("it stays with another net", x.step(2), 4);
        Check.is("a net with a fault", Check.net(x, "bar"), -4);
        Check.is("it stays", x.step(2), 4);
        Check.is("rules", Check.rules(x, "no close if lost above 0;"), 1);
        Check.is("order", Check.order(x, "tag s;"), 1);
        Check.is("carry", x.carry(), 1);
        x.rules();
        x.keep(0);
        x.back(0);
        for (int n : new int[] {0, 4}) {
            Check.refuses("restore", Check.ARGUMENT, () -> x.restore(n));
        }
        Check.is("it stays", x.step(2), 4);
        Check.order(x, "untag s;");
        x.carry();
        found(x, 1, 3);
        Check.is("net", Check.net(x, STAR), 6);
        Check.is("none since net()", x.step(0), -1);
        found(x, 1, 4);
    }
}
