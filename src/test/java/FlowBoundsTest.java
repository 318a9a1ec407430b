/** Each boundary that the document names for flows, numbers in hand and the screening: section 2, promises 15 to 21. */
public final class FlowBoundsTest {
    private static final String PAIR = "bar a;bar b;line l a b 2 1 5;machine g a 1 1 0 99 1 1 1 0;"
            + "machine h b 1 1 0 99 1 1 1 9;"
            + "load p b 0;";

    private FlowBoundsTest() {
    }

    public static void main(String[] args) {
        stuck();
        shares();
        over();
        fractionsOver();
        dead();
        hand();
        handStays();
        figures();
        screened();
        stuckMore();
        lostMore();
        overMore();
        allLines();
        greatestNet();
        Check.close("FlowBoundsTest");
    }

    /** The machine g alone, which has no SHARE. */
    private static GridHouse alone() {
        GridHouse x = Check.house(PAIR);
        x.set(3, 1, 0, 0);
        return x;
    }

    private static void stuck() {
        Check.sentence("If T is 0 and G is not, it is STUCK");
        for (int load = 0; load <= 2; load++) {
            for (int mw = 0; mw <= 2; mw++) {
                GridHouse x = alone();
                x.set(4, 0, 0, load);
                x.set(3, 0, 1, mw);
                Check.is("STUCK", x.bar(1, 3) == 1, load != mw);
                Check.is("how many", x.count(13), load != mw ? 1 : 0);
                Check.is("LIVE", x.bar(1, 2), 1);
                Check.is("LOST", x.count(15), 0);
                Check.makes("gives", x, x.gives(0), load == mw && mw > 0 ? 1 : 0, (load == mw ? mw : 0) + "/1");
                Check.makes("carries", x, x.carries(0), load == mw && mw > 0 ? 1 : 0, (load == mw ? mw : 0) + "/1");
                Check.makes("angle", x, x.angle(1), load == mw && mw > 0 ? -1 : 0, (load == mw ? 2 * mw : 0) + "/1");
            }
        }
        GridHouse x = alone();
        x.set(4, 0, 0, 9999);
        x.set(2, 0, 3, 0);
        Check.is("a line in a STUCK island is not OVER", x.count(14), 0);
        x.set(3, 0, 9, 1);
        Check.is("T is 1", x.bar(0, 3), 0);
        Check.is("OVER", x.count(14), 1);
        Check.makes("gives", x, x.gives(0), 1, "9999/1");
        x.set(3, 0, 9, 0);
        x.set(3, 1, 0, 1);
        Check.is("T is 9", x.bar(0, 3), 0);
        Check.makes("gives", x, x.gives(1), 1, "9999/1");
        Check.makes("gives", x, x.gives(0), 0, "0/1");
        x.set(3, 1, 0, 0);
        Check.is("a SHARE that is not ON does not count", x.bar(0, 3), 1);
        Check.sentence("an island that is DEAD is not STUCK");
        x.set(3, 0, 0, 0);
        Check.is("STUCK", x.bar(0, 3), 0);
        Check.is("STUCK", x.count(13), 0);
    }

    private static void shares() {
        Check.sentence("each of these machines GIVES its MW and G S / T more");
        GridHouse x = Check.house(PAIR);
        x.set(3, 0, 9, 9);
        x.set(3, 0, 1, 9999);
        Check.makes("gives", x, x.gives(0), 1, "9999/2");
        Check.makes("gives", x, x.gives(1), -1, "9999/2");
        Check.makes("carries", x, x.carries(0), 1, "9999/2");
        x.set(3, 0, 9, 1);
        Check.makes("gives", x, x.gives(0), 1, "89991/10");
        Check.makes("gives", x, x.gives(1), -1, "89991/10");
        x.set(3, 0, 9, 0);
        Check.makes("S is 0", x, x.gives(0), 1, "9999/1");
        Check.makes("S is all", x, x.gives(1), -1, "9999/1");
        Check.sentence("nothing more, if T is 0");
        x.set(3, 1, 9, 0);
        x.set(3, 1, 1, 1);
        x.set(4, 0, 0, 9999);
        x.set(3, 0, 1, 9998);
        Check.makes("gives", x, x.gives(0), 1, "9998/1");
        Check.makes("gives", x, x.gives(1), 1, "1/1");
        Check.makes("carries", x, x.carries(0), 1, "9998/1");
    }

    private static void over() {
        Check.sentence("A line is OVER, if what it carries, without sign, is above its LIMIT");
        GridHouse x = Check.house("bar a;bar b;line l a b 2 1 5;line k b a 2 1 5;machine g a 1 1 0 99 1 1 1 1;"
                + "load p b 0;");
        for (int line = 0; line < 2; line++) {
            x.set(2, 1 - line, 0, 0);
            x.set(2, line, 0, 1);
            x.set(2, line, 3, 5);
            for (int mw = 4; mw <= 6; mw++) {
                x.set(4, 0, 0, mw);
                Check.is("with 5, OVER at " + mw, x.count(14), mw > 5 ? 1 : 0);
                Check.makes("carries", x, x.carries(line), line == 0 ? 1 : -1, mw + "/1");
            }
            x.set(2, line, 3, 0);
            x.set(4, 0, 0, 1);
            Check.is("1 is above 0", x.count(14), 1);
            x.set(4, 0, 0, 0);
            Check.is("0 is not above 0", x.count(14), 0);
            x.set(4, 0, 0, 9999);
            x.set(2, line, 3, 9999);
            Check.is("9999 is not above 9999", x.count(14), 0);
            x.set(2, line, 3, 9998);
            Check.is("9999 is above 9998", x.count(14), 1);
        }
        Check.sentence("A line that is not IN carries 0");
        x.set(2, 0, 0, 1);
        x.set(2, 1, 0, 0);
        x.set(2, 1, 3, 0);
        Check.makes("carries", x, x.carries(1), 0, "0/1");
        Check.is("OVER", x.count(14), 1);
    }

    private static void fractionsOver() {
        Check.sentence("A line is OVER, if what it carries, without sign, is above its LIMIT: 10/3 and 5/3");
        GridHouse x = Check.house("bar a;bar b;line l a b 1 1 3;line k b a 2 1 1;machine g a 1 1 0 99 1 1 1 1;"
                + "load p b 5;");
        Check.makes("carries", x, x.carries(0), 1, "10/3");
        Check.makes("carries", x, x.carries(1), -1, "5/3");
        Check.is("both", x.count(14), 2);
        x.set(2, 0, 3, 4);
        Check.is("one", x.count(14), 1);
        x.set(2, 1, 3, 2);
        Check.is("none", x.count(14), 0);
        x.set(4, 0, 0, 6);
        Check.is("4 and 2 are not above", x.count(14), 0);
    }

    private static void dead() {
        Check.sentence("LOST are the MW of all loads in DEAD islands, together");
        GridHouse x = Check.house("bar a;bar b;bar c;line l a b 2 1 5;line k b c 2 1 5;machine g c 1 1 0 99 1 1 1 1;"
                + "load p a 3;load q b 4;load r c 5;load o a 0;");
        Check.is("none", x.count(15), 0);
        x.set(2, 0, 0, 0);
        Check.is("a", x.count(15), 3);
        x.set(2, 1, 0, 0);
        Check.is("a and b", x.count(15), 7);
        x.set(3, 0, 0, 0);
        Check.is("all", x.count(15), 12);
        x.set(2, 0, 0, 1);
        x.set(2, 1, 0, 1);
        Check.is("all in one island", x.count(15), 12);
        Check.sentence("In DEAD islands angles are 0; machines that are not ON give 0");
        Check.makes("angle", x, x.angle(2), 0, "0/1");
        Check.makes("carries", x, x.carries(1), 0, "0/1");
        Check.makes("gives", x, x.gives(0), 0, "0/1");
        Check.is("OVER", x.count(14), 0);
        Check.sentence("the island's least node has 0");
        x.set(3, 0, 0, 1);
        Check.makes("angle", x, x.angle(0), 0, "0/1");
        Check.makes("angle", x, x.angle(1), 1, "6/1");
        Check.makes("angle", x, x.angle(2), 1, "20/1");
        x.set(2, 0, 0, 0);
        Check.makes("b is the least now", x, x.angle(1), 0, "0/1");
        Check.makes("angle", x, x.angle(2), 1, "8/1");
    }

    private static void hand() {
        Check.sentence("NUMBERS IN HAND: 0 at first; answers its sign: -1, 0, 1");
        GridHouse x = Check.house("bar a;bar b;line l a b 4 1 5;line k b a 4 1 5;machine g a 1 1 0 99 1 1 1 1;"
                + "load p b 6;");
        Check.inHand("at first", x, "0/1");
        Check.makes("1", x, x.carries(0), 1, "3/1");
        Check.makes("-1", x, x.carries(1), -1, "3/1");
        Check.makes("-1", x, x.angle(1), -1, "12/1");
        Check.makes("0", x, x.angle(0), 0, "0/1");
        Check.sentence("fractions in lowest terms");
        x.set(4, 0, 0, 7);
        Check.makes("7/2", x, x.carries(0), 1, "7/2");
        x.set(2, 1, 1, 12);
        Check.makes("21/4", x, x.carries(0), 1, "21/4");
        Check.makes("7/4", x, x.carries(1), -1, "7/4");
        x.set(4, 0, 0, 8);
        Check.makes("6/1", x, x.carries(0), 1, "6/1");
        Check.makes("2/1", x, x.carries(1), -1, "2/1");
    }

    private static void handStays() {
        Check.sentence("A call that MAKES one puts it in hand (it stays till another one is made)");
        GridHouse x = Check.house("bar a;bar b;bar c;switch s a b open 1;line l a b 3 1 5;line k b a 4 1 5;"
                + "machine g a 1 1 0 99 1 1 1 1;load p b 6;load q c 1;");
        x.meter(2, 1, 5, 1);
        x.meter(2, 1, 7, 1);
        x.shortAt(0, 1, 0);
        x.relay(0, 0, 0, 0);
        x.row(0, 0, 0);
        Check.rules(x, "no tag if lost is 1;");
        Check.order(x, "close s;");
        Check.makes("angle", x, x.angle(1), -1, "72/7");
        Pair.Deed[] deeds = {() -> x.worst(), () -> x.seen(1), () -> x.strike(0, true), () -> x.meter(0, 0, 9, 1),
            () -> x.screen(), () -> x.trouble(0, 0), () -> x.count(14), () -> x.bar(0, 4), () -> x.met(0, 0),
            () -> x.begin(), () -> x.run(5), () -> x.opened(0, 1), () -> x.ordered(0), () -> x.dispatch(),
            () -> x.barred(1), () -> x.restore(3), () -> x.step(0), () -> x.get(3, 0, 5), () -> x.set(3, 0, 5, 98),
            () -> x.keep(1), () -> x.back(1), () -> x.name(0, 0, 0), () -> x.carry(), () -> x.fails(0, true),
            () -> x.backup(7), () -> x.relay(1, 1, 0, 1), () -> x.row(1, 3, 3), () -> x.shortOn(1, 0, 5, 5),
            () -> x.shortAt(1, 1, 5), () -> x.clearShort(), () -> x.figures(0), () -> x.figure(1, 0),
            () -> Check.rules(x, "no"), () -> Check.order(x, ""), () -> Check.find(x, "a"), () -> Check.net(x, "bar")};
        for (int i = 0; i < deeds.length; i++) {
            deeds[i].go();
            Check.inHand("behind deed " + i, x, "72/7");
        }
        GridHouse y = Check.house("bar a;bar b;bar c;line l a b 3 1 5;line k b a 4 1 5;machine g a 1 1 0 6 1 1 1 1;"
                + "load p b 6;");
        y.meter(2, 1, 5, 1);
        y.strike(0, true);
        Check.makes("angle", y, y.angle(1), -1, "72/7");
        Pair.Deed[] refused = {() -> y.estimate(1), () -> y.rest(0, 0), () -> y.rest(0, 1), () -> y.price(1),
            () -> y.price(2), () -> y.price(3), () -> y.sets(1), () -> y.angle(-1), () -> y.carries(2),
            () -> y.gives(1), () -> y.into(3), () -> y.voltage(0, 5), () -> y.current(0, 2, 0)};
        for (int i = 0; i < refused.length; i++) {
            int k = i;
            String due = i < 5 ? Check.STATE : i < 10 ? Check.INDEX : Check.ARGUMENT;
            Check.refuses("call " + i, due, () -> refused[k].go());
            Check.inHand("behind call " + i, y, "72/7");
        }
    }

    private static void figures() {
        Check.sentence("Promises 18, 19: how many figures; figure i (0 the lowest); NONE: none such");
        GridHouse x = Check.house("bar a;bar b;line l a b 99 1 5;line k b a 98 1 5;line m a b 97 1 5;"
                + "machine g a 1 1 0 99 1 1 1 1;load p b 9999;");
        // 9999 by 1/99 + 1/98 + 1/97
        Check.makes("angle", x, x.angle(1), -1, "9409998906/28811");
        int[][] due = {{6, 0, 9, 8, 9, 9, 9, 0, 4, 9}, {1, 1, 8, 8, 2}};
        for (int part = 0; part < 2; part++) {
            Check.is("figures", x.figures(part), due[part].length);
            for (int i = 0; i < due[part].length; i++) {
                Check.is("figure " + i, x.figure(part, i), due[part][i]);
            }
            for (int i : new int[] {-1, due[part].length, 899, 900, 901, 1 << 30, Integer.MIN_VALUE,
                    Integer.MAX_VALUE}) {
                Check.is("figure " + i, x.figure(part, i), -1);
            }
        }
        Check.sentence("Promise 18: 0 has one");
        x.angle(0);
        for (int part = 0; part < 2; part++) {
            Check.is("figures", x.figures(part), 1);
            Check.is("figure 0", x.figure(part, 0), part);
            Check.is("figure 1", x.figure(part, 1), -1);
            Check.is("figure -1", x.figure(part, -1), -1);
        }
        // a figure asked for ahead of figures()
        x.angle(1);
        Check.is("the highest figure", x.figure(0, 9), 9);
        x.carries(1);
        Check.is("the lowest figure below", x.figure(1, 0), 1);
        x.angle(0);
        Check.is("figure 0", x.figure(0, 0), 0);
        Check.is("figure 1", x.figure(0, 1), -1);
        // figures of nothing but noughts below the highest, and a shorter number behind a longer one
        x.set(2, 1, 0, 0);
        x.set(2, 2, 0, 0);
        x.set(2, 0, 1, 1);
        int mw = 1;
        for (int figures = 1; figures <= 4; figures++) {
            x.set(4, 0, 0, mw);
            Check.makes("angle", x, x.angle(1), -1, mw + "/1");
            Check.is("figures", x.figures(0), figures);
            Check.is("the highest", x.figure(0, figures - 1), 1);
            Check.is("beyond it", x.figure(0, figures), -1);
            mw *= 10;
        }
        x.set(4, 0, 0, 9);
        Check.makes("angle", x, x.angle(1), -1, "9/1");
        Check.is("beyond it", x.figure(0, 1), -1);
    }

    private static void trouble(GridHouse x, int k, int line, int which, int lost, int over) {
        Check.is("line", x.trouble(k, 0), line);
        Check.is("which", x.trouble(k, 1), which);
        Check.is("LOST more", x.trouble(k, 2), lost);
        Check.is("OVER then", x.trouble(k, 3), over);
    }

    private static void screened() {
        Check.sentence("SCREENED is each line that is IN and in a LIVE island");
        String text = "bar a;bar b;bar c;bar d;switch s a b closed 1;line l a b 1 1 9;line k b c 1 1 9;"
                + "line m c d 1 1 9;"
                + "machine g a 1 1 0 99 1 1 1 1;load p c 3;load q d 4;";
        GridHouse x = Check.house(text);
        Check.is("both lines that lead on", x.screen(), 2);
        trouble(x, 0, 1, 2, 7, 0);
        trouble(x, 1, 2, 2, 4, 0);
        Check.refuses("a third", Check.INDEX, () -> x.trouble(2, 0));
        x.set(2, 1, 0, 0);
        Check.is("one is not IN, one in a DEAD island, one within a node", x.screen(), 0);
        Check.refuses("a first", Check.INDEX, () -> x.trouble(0, 0));
        x.set(2, 1, 0, 1);
        x.set(1, 0, 0, 0);
        Check.is("now l leads on, too", x.screen(), 3);
        trouble(x, 0, 0, 2, 7, 0);
        trouble(x, 2, 2, 2, 4, 0);
        Check.sentence("2, if more is LOST than now");
        x.set(4, 1, 0, 0);
        Check.is("no load behind m", x.screen(), 2);
        x.set(4, 0, 0, 0);
        Check.is("no load at all", x.screen(), 0);
        x.set(4, 1, 0, 1);
        Check.is("1 behind all three", x.screen(), 3);
        Check.sentence("others as they are");
        Check.is("the net stays", x.get(2, 0, 0) + x.get(2, 1, 0) + x.get(2, 2, 0), 3);
        Check.sentence("Promise 21: by the net as it is now");
        x.set(4, 0, 0, 2);
        trouble(x, 0, 0, 2, 3, 0);
        x.set(3, 0, 0, 0);
        Check.refuses("a first", Check.INDEX, () -> x.trouble(0, 0));
    }

    private static void stuckMore() {
        Check.sentence("TROUBLE: 1, if more islands are STUCK than are now");
        String text = "bar a;bar b;line l a b 1 1 99;machine g a 1 1 0 99 1 1 1 0;load p b 10;";
        GridHouse x = Check.house(text);
        x.set(3, 0, 1, 10);
        Check.is("screen", x.screen(), 1);
        Check.sentence("1 comes ahead of 2");
        trouble(x, 0, 0, 1, 10, 0);
        x.set(3, 0, 1, 9);
        Check.is("one is STUCK now", x.count(13), 1);
        Check.is("and one then: not more", x.screen(), 1);
        trouble(x, 0, 0, 2, 10, 0);
        x.set(4, 0, 0, 0);
        Check.is("STUCK", x.count(13), 1);
        Check.is("as many STUCK, nothing LOST", x.screen(), 0);
        GridHouse y = Check.house(text + "machine h b 1 1 0 99 1 1 1 0;");
        y.set(3, 0, 1, 4);
        y.set(3, 1, 1, 5);
        Check.is("one is STUCK", y.count(13), 1);
        Check.is("two then", y.screen(), 1);
        trouble(y, 0, 0, 1, 0, 0);
        y.set(3, 1, 1, 10);
        Check.is("one is STUCK", y.count(13), 1);
        Check.is("one of two is then", y.screen(), 0);
        y.set(3, 0, 1, 0);
        Check.is("none is", y.count(13), 0);
        Check.is("none is then", y.screen(), 0);
    }

    private static void lostMore() {
        Check.sentence("2 comes ahead of 3");
        // without l the load at c is LOST, and k has to bring h's 10 back to a
        GridHouse x = Check.house("bar a;bar b;bar c;line k a b 1 1 9;line l b c 1 1 99;machine g a 1 1 0 99 1 1 1 1;"
                + "machine h b 1 1 10 99 1 1 1 0;load p c 10;");
        Check.is("OVER now", x.count(14), 0);
        Check.is("screen", x.screen(), 1);
        trouble(x, 0, 1, 2, 10, 1);
        x.set(2, 0, 3, 10);
        trouble(x, 0, 1, 2, 10, 0);
        Check.sentence("1 comes ahead of 3");
        x.set(2, 0, 3, 9);
        x.set(3, 0, 9, 0);
        x.set(2, 0, 0, 0);
        Check.is("g is alone and balanced, b and c, too", x.count(13), 0);
        Check.is("screen", x.screen(), 1);
        trouble(x, 0, 1, 1, 10, 0);
    }

    private static void overMore() {
        Check.sentence("3, if more lines are OVER than now");
        // each carries 5; without the other 10
        GridHouse x = Check.house("bar a;bar b;line k a b 1 1 9;line l a b 1 1 9;machine g a 1 1 0 99 1 1 1 1;"
                + "load p b 10;");
        Check.is("both", x.screen(), 2);
        trouble(x, 0, 0, 3, 0, 1);
        trouble(x, 1, 1, 3, 0, 1);
        x.set(2, 1, 3, 10);
        Check.is("10 is not above 10", x.screen(), 1);
        trouble(x, 0, 1, 3, 0, 1);
        x.set(2, 0, 3, 4);
        Check.is("k is OVER now", x.count(14), 1);
        Check.is("and then: not more", x.screen(), 0);
        x.set(2, 1, 3, 9);
        Check.is("another one then: not more", x.screen(), 0);
        x.set(2, 1, 3, 4);
        Check.is("two are now", x.count(14), 2);
        Check.is("one then", x.screen(), 0);
        x.set(2, 0, 3, 5);
        x.set(2, 1, 3, 5);
        Check.is("none are now", x.count(14), 0);
        Check.is("one then", x.screen(), 2);
    }

    private static void allLines() {
        Check.sentence("All lines are SCREENED: twenty of twenty make TROUBLE");
        StringBuilder t = new StringBuilder("bar a;bar b;machine g a 1 1 0 99 1 1 1 1;load p b 100;");
        for (int l = 0; l < 20; l++) {
            t.append("line l").append(l).append(l % 2 == 0 ? " a b" : " b a").append(" 7 1 5;");
        }
        GridHouse x = Check.house(t.toString());
        Check.is("none is OVER", x.count(14), 0);
        Check.is("screen", x.screen(), 20);
        for (int k = 0; k < 20; k++) {
            trouble(x, k, k, 3, 0, 19);
        }
        Check.refuses("one beyond", Check.INDEX, () -> x.trouble(20, 0));
        x.set(2, 0, 0, 0);
        Check.is("nineteen are OVER", x.count(14), 19);
        Check.is("fewer then", x.screen(), 0);
    }

    /** A row of all sixteen bars, the first five lines twice; machines at the first bar, loads at the last. */
    private static void greatestNet() {
        Check.sentence("BARS (16 at most), SWITCHES (24), LINES (20), MACHINES (6), LOADS (12): all count in what "
                + "is asked");
        StringBuilder t = new StringBuilder();
        for (int b = 0; b < 16; b++) {
            t.append("bar b").append(b).append(";");
        }
        for (int s = 0; s < 24; s++) {
            t.append("switch s").append(s).append(" b").append(s % 16).append(s % 16 == 15 ? " b0" : " b15");
            t.append(" open 1;");
        }
        for (int l = 0; l < 20; l++) {
            int i = l % 15;
            t.append("line l").append(l).append(" b").append(i).append(" b").append(i + 1).append(" ").append(i + 1)
                    .append(" 1 9999;");
        }
        for (int m = 0; m < 6; m++) {
            t.append("machine m").append(m).append(" b0 60 60 0 ").append(m == 5 ? 99 : 0).append(" 1 1 1 ")
                    .append(m == 5 ? 1 : 0).append(";");
        }
        for (int i = 0; i < 12; i++) {
            t.append("load o").append(i).append(" b15 1;");
        }
        GridHouse x = Check.house(t.toString());
        Check.is("nodes", x.count(10), 16);
        Check.is("islands", x.count(11), 1);
        Check.makes("the last machine gives all", x, x.gives(5), 1, "12/1");
        int twice = 0;
        for (int b = 0; b < 16; b++) {
            Check.makes("angle", x, x.angle(b), b == 0 ? 0 : -1, 6 * twice + "/1");
            twice += b < 5 ? b + 1 : 2 * (b + 1);
        }
        for (int l = 0; l < 20; l++) {
            Check.makes("carries", x, x.carries(l), 1, (l < 5 || l >= 15 ? 6 : 12) + "/1");
        }
        Check.is("ten lines are needed", x.screen(), 10);
        trouble(x, 9, 14, 2, 12, 0);
        Check.is("dispatch", x.dispatch(), 1);
        Check.makes("sets", x, x.sets(5), 1, "12/1");
        Check.makes("price", x, x.price(15), 1, "1/1");
        x.shortAt(0, 15, 0);
        // six machines of 60 are 10, the row is 112 and a half
        Check.makes("into", x, x.into(1), 1, "400/49");
        x.shortOn(0, 14, 8, 0);
        // the PLACE is a seventeenth node, half of 15 ahead of b15
        Check.makes("into", x, x.into(1), 1, "200/23");
        Check.makes("all of it by end 0", x, x.current(14, 0, 1), 1, "200/23");
        Check.makes("at b15 as at the PLACE", x, x.voltage(15, 1), 0, "0/1");
        for (int l = 0; l < 15; l++) {
            x.meter(0, l, 12, 1);
        }
        Check.is("all are SEEN", x.seen(15), 2);
        Check.makes("estimate", x, x.estimate(15), -1, "1440/1");
        x.strike(14, true);
        Check.is("b15 is not", x.seen(15), 0);
        Check.is("b14 is", x.seen(14), 1);
        x.set(2, 14, 0, 0);
        Check.is("LOST", x.count(15), 12);
        Check.is("DEAD", x.bar(15, 2), 0);
        Check.is("its own island", x.bar(15, 1), 15);
        Check.is("the first switch brings it back", x.restore(3), 1);
        Check.is("step", x.step(0), 0);
        x.set(1, 23, 0, 2);
        Check.is("an unknown switch", x.bar(15, 4), 2);
        x.set(1, 23, 0, 1);
        // b7 and b15
        Check.is("the last switch", x.bar(15, 0), 7);
        Check.is("LOST", x.count(15), 0);
        x.set(1, 15, 0, 1);
        // b15 and b0
        Check.is("the least bar of the node", x.bar(7, 0), 0);
        Check.is("nodes", x.count(10), 14);
    }
}
