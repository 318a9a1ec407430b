/** Each boundary that the document names for meters and estimates: section 3, promises 22 to 27. */
public final class EstimateBoundsTest {
    private static final String NET = "bar a;bar b;bar c;bar d;switch s c d open 1;line l a b 2 1 9;line k b c 1 1 9;";

    private EstimateBoundsTest() {
    }

    public static void main(String[] args) {
        told();
        kinds();
        seen();
        together();
        whole();
        islands();
        struck();
        rests();
        spreads();
        worst();
        ties();
        allMeters();
        Check.close("EstimateBoundsTest");
    }

    private static void told() {
        Check.sentence("Promise 22: v is not -99999 .. 99999, w not 1 .. 99; there are 32");
        GridHouse x = Check.house(NET);
        int[][] numbers = {{99999, 1}, {-99999, 99}, {0, 1}, {99999, 99}, {-99999, 1}};
        for (int i = 0; i < 32; i++) {
            int[] n = numbers[i % 5];
            Check.is("meter", x.meter(2, 3, n[0], n[1]), i);
            if (i < 5) {
                Check.makes("rest", x, x.rest(i, 0), Integer.signum(n[0]), Math.abs(n[0]) + "/1");
                Check.makes("spread", x, x.rest(i, 1), 1, "1/" + n[1]);
            }
            // what is beyond the bounds gives no number of a meter away
            Check.refuses("v", Check.ARGUMENT, () -> x.meter(2, 3, 100000, 1));
            Check.refuses("w", Check.ARGUMENT, () -> x.meter(2, 3, 0, 100));
            x.strike(i, true);
        }
        Check.refuses("the 33rd", Check.STATE, () -> x.meter(2, 3, 0, 1));
        Check.is("how many", x.count(5), 32);
        Check.makes("the last one's rest", x, x.rest(31, 0), -1, "99999/1");
        Check.is("the last one was STRUCK", x.strike(31, false), true);
        Check.is("worst", x.worst(), 31);
    }

    private static void kinds() {
        Check.sentence("a meter of kind 0 at a line, of kinds 1 and 2 at a bar");
        GridHouse x = Check.house(NET);
        Check.is("the last line", x.meter(0, 1, 0, 1), 0);
        Check.refuses("one beyond", Check.INDEX, () -> x.meter(0, 2, 0, 1));
        Check.is("the last bar", x.meter(1, 3, 0, 1), 1);
        Check.refuses("one beyond", Check.INDEX, () -> x.meter(1, 4, 0, 1));
        Check.is("the last bar", x.meter(2, 3, 0, 1), 2);
        Check.refuses("one beyond", Check.INDEX, () -> x.meter(2, 4, 0, 1));
        Check.sentence("a meter SHOWS what the line would carry; the sum away from the node; the angle");
        // b is -6, c is -10: 3 flows over l, 4 over k
        GridHouse y = Check.house(NET);
        y.meter(2, 1, -6, 1);
        y.meter(2, 2, -10, 1);
        Check.makes("estimate", y, y.estimate(1), -1, "6/1");
        Check.makes("estimate", y, y.estimate(2), -1, "10/1");
        int[][] shown = {{0, 0, 3}, {0, 1, 4}, {1, 0, 3}, {1, 1, 1}, {1, 2, -4}, {2, 0, 0}, {1, 3, 0}, {2, 3, 0}};
        for (int[] m : shown) {
            int meter = y.meter(m[0], m[1], 0, 1);
            y.strike(meter, true);
            Check.makes("v less what it shows", y, y.rest(meter, 0), Integer.signum(-m[2]), Math.abs(m[2]) + "/1");
        }
        Check.sentence("0, if it is not IN");
        y.set(2, 1, 0, 0);
        y.set(1, 0, 0, 1);
        Check.is("c is an island of its own", y.seen(2), 2);
        Check.makes("the line k", y, y.rest(3, 0), 0, "0/1");
        Check.makes("the sum at b", y, y.rest(5, 0), 1, "3/1");
        Check.makes("the sum at c", y, y.rest(6, 0), 0, "0/1");
        Check.makes("the angle of c", y, y.rest(1, 0), -1, "10/1");
    }

    private static void seen() {
        Check.sentence("A node is SEEN, if its angle is 0 by all angles by which all meters that are not STRUCK "
                + "show 0");
        GridHouse x = Check.house(NET);
        int[] none = {1, 0, 0, 2};
        for (int b = 0; b < 4; b++) {
            Check.is("without meters", x.seen(b), none[b]);
        }
        // they show 0 anyhow
        x.meter(2, 0, 5, 9);
        x.meter(1, 3, 5, 9);
        x.meter(2, 3, 5, 9);
        for (int b = 0; b < 4; b++) {
            Check.is("with meters that show nothing", x.seen(b), none[b]);
        }
        x.meter(0, 1, 0, 1);
        Check.is("b less c alone sees neither", x.seen(1) + x.seen(2), 0);
        x.meter(1, 2, 0, 1);
        Check.is("c less b tells the same", x.seen(1) + x.seen(2), 0);
        x.meter(1, 1, 0, 1);
        Check.is("the sum at b tells the rest", x.seen(1), 2);
        Check.is("all are SEEN", x.seen(2), 2);
        x.strike(3, true);
        Check.is("two of three are enough", x.seen(1), 2);
        x.strike(4, true);
        Check.is("one is not", x.seen(1), 0);
        Check.is("the least node", x.seen(0), 1);
        Check.sentence("w does not matter, nor does v");
        x.strike(5, true);
        x.meter(2, 2, 0, 1);
        Check.is("c", x.seen(2), 1);
        Check.is("b", x.seen(1), 0);
        Check.is("a", x.seen(0), 1);
    }

    /** Two sums none of which sees a node, and both see all; with other X they tell the same, and see nothing. */
    private static void together() {
        Check.sentence("all meters of the island");
        GridHouse x = Check.house("bar a;bar b;bar c;line l a b 1 1 9;line k b c 1 1 9;line m a c 1 1 9;");
        x.meter(1, 1, 0, 1);
        Check.is("2 b less c", x.seen(1) + x.seen(2), 0);
        x.meter(1, 2, 0, 1);
        Check.is("and 2 c less b", x.seen(1) + x.seen(2), 4);
        x.strike(0, true);
        Check.is("alone", x.seen(1) + x.seen(2), 0);
        x.meter(1, 0, 0, 1);
        Check.is("and - b less c", x.seen(1) + x.seen(2), 4);
        x.strike(0, false);
        x.strike(1, true);
        x.strike(2, true);
        x.meter(0, 1, 0, 1);
        Check.is("2 b less c, and b less c", x.seen(1) + x.seen(2), 4);
    }

    private static void whole() {
        Check.sentence("An island is WHOLE, if all its nodes are SEEN");
        GridHouse x = Check.house(NET);
        x.meter(2, 1, 5, 1);
        Check.is("all but c", x.seen(1), 1);
        Check.refuses("estimate of a SEEN node", Check.STATE, () -> x.estimate(1));
        Check.refuses("estimate of the least node", Check.STATE, () -> x.estimate(0));
        Check.refuses("rest", Check.STATE, () -> x.rest(0, 0));
        x.set(2, 1, 0, 0);
        Check.is("c is in an island of its own", x.seen(1), 2);
        Check.makes("estimate", x, x.estimate(1), 1, "5/1");
        x.set(2, 1, 0, 1);
        Check.is("it is not, again", x.seen(1), 1);
        Check.sentence("angles are looked for in all islands, LIVE or not");
        GridHouse y = Check.house(NET + "machine g a 1 1 0 9 1 1 1 0;load p b 3;");
        y.meter(2, 1, -7, 1);
        y.meter(0, 1, 2, 1);
        for (int turn = 0; turn < 2; turn++) {
            Check.is("STUCK, then DEAD", y.bar(0, 3), 1 - turn);
            Check.makes("estimate", y, y.estimate(1), -1, "7/1");
            Check.makes("estimate", y, y.estimate(2), -1, "9/1");
            Check.makes("the least node", y, y.estimate(0), 0, "0/1");
            y.set(3, 0, 0, 0);
        }
        Check.sentence("the node of a bar");
        y.set(1, 0, 0, 1);
        Check.makes("d is one with c", y, y.estimate(3), -1, "9/1");
        y.set(1, 0, 0, 2);
        Check.makes("not by an unknown switch", y, y.estimate(3), 0, "0/1");
        // 6 flow over l to b, 4 away from c over k
        GridHouse z = Check.house("bar a;bar b;bar c;bar d;switch s b c closed 1;line l a b 1 1 9;line k c d 1 1 9;");
        z.meter(2, 2, -6, 1);
        z.meter(2, 3, -10, 1);
        int[][] shown = {{1, 1, -2}, {1, 2, -2}, {1, 0, 6}, {1, 3, -4}, {2, 1, -6}, {0, 0, 6}, {0, 1, 4}};
        for (int[] m : shown) {
            int meter = z.meter(m[0], m[1], 0, 1);
            z.strike(meter, true);
            Check.makes("v less what it shows", z, z.rest(meter, 0), Integer.signum(-m[2]), Math.abs(m[2]) + "/1");
        }
        // with b and c alike the sum of their node tells what is asked of both
        z.strike(0, true);
        z.strike(2, false);
        Check.is("WHOLE by the sum at the node and d", z.seen(1), 2);
        Check.makes("0 by it, with d -10: b is halfway", z, z.estimate(1), -1, "5/1");
        z.set(1, 0, 0, 0);
        Check.is("b without c", z.seen(1), 2);
        Check.makes("0 by the sum at b", z, z.estimate(1), 0, "0/1");
    }

    private static void islands() {
        Check.sentence("It is of the island of the line's end 0");
        GridHouse x = Check.house("bar a;bar b;bar c;bar d;line l a b 1 1 9;line k c d 1 1 9;line m a c 1 1 9;"
                + "line n c a 1 1 9;");
        x.set(2, 2, 0, 0);
        x.set(2, 3, 0, 0);
        x.meter(0, 2, 7, 1);
        x.meter(0, 3, 8, 1);
        x.meter(2, 1, 1, 1);
        Check.is("a's island is WHOLE", x.seen(0), 2);
        Check.is("c's is not", x.seen(2), 1);
        Check.makes("m is of a's", x, x.rest(0, 0), 1, "7/1");
        Check.refuses("n is of c's", Check.STATE, () -> x.rest(1, 0));
        Check.refuses("n is of c's", Check.STATE, () -> x.rest(1, 1));
        Check.is("the worst of a's", x.worst(), 0);
        x.meter(2, 3, 2, 1);
        Check.makes("n", x, x.rest(1, 0), 1, "8/1");
        Check.is("worst", x.worst(), 1);
        x.set(2, 2, 0, 1);
        Check.makes("m joins both", x, x.rest(0, 0), 0, "0/1");
        Check.makes("n is not IN", x, x.rest(1, 0), 1, "8/1");
    }

    private static void struck() {
        Check.sentence("Promise 23: a meter is STRUCK, or not: whether it was");
        GridHouse x = Check.house(NET);
        x.meter(2, 1, 4, 1);
        x.meter(2, 1, 10, 1);
        x.meter(2, 2, 0, 1);
        Check.is("at first", x.strike(1, false), false);
        Check.makes("between both", x, x.estimate(1), 1, "7/1");
        Check.is("strike", x.strike(1, true), false);
        Check.makes("the other one's", x, x.estimate(1), 1, "4/1");
        Check.sentence("REST of a meter of a WHOLE island (STRUCK ones, too)");
        Check.makes("rest", x, x.rest(1, 0), 1, "6/1");
        Check.refuses("no SPREAD of a STRUCK one", Check.STATE, () -> x.rest(1, 1));
        Check.is("strike", x.strike(1, true), true);
        Check.is("strike", x.strike(0, true), false);
        Check.is("b is not SEEN any more", x.seen(1), 0);
        Check.refuses("rest", Check.STATE, () -> x.rest(1, 0));
        Check.is("strike", x.strike(1, false), true);
        Check.makes("estimate", x, x.estimate(1), 1, "10/1");
        Check.makes("SPREAD of what tells alone", x, x.rest(1, 1), 0, "0/1");
    }

    private static void rests() {
        Check.sentence("THE ESTIMATE: the sum of w (v - what it shows)^2 is least");
        GridHouse x = Check.house(NET);
        x.meter(2, 1, 0, 1);
        x.meter(2, 1, 100, 99);
        x.meter(2, 2, 0, 1);
        Check.makes("estimate", x, x.estimate(1), 1, "99/1");
        Check.makes("rest", x, x.rest(0, 0), -1, "99/1");
        Check.makes("rest", x, x.rest(1, 0), 1, "1/1");
        Check.makes("the only one", x, x.rest(2, 0), 0, "0/1");
        x.strike(1, true);
        x.meter(2, 1, -99999, 1);
        Check.makes("estimate", x, x.estimate(1), -1, "99999/2");
        Check.makes("rest", x, x.rest(3, 0), -1, "99999/2");
        Check.makes("rest", x, x.rest(1, 0), 1, "100199/2");
    }

    private static void spreads() {
        Check.sentence("SPREAD: what its REST would be, if its v were 1 and that of all others 0, by w");
        GridHouse x = Check.house(NET);
        x.meter(2, 1, 50, 2);
        x.meter(2, 2, 0, 1);
        Check.makes("1 - 2/2", x, x.rest(0, 1), 0, "0/1");
        x.meter(2, 1, 60, 3);
        Check.makes("(1 - 2/5) / 2", x, x.rest(0, 1), 1, "3/10");
        Check.makes("(1 - 3/5) / 3", x, x.rest(2, 1), 1, "2/15");
        Check.makes("c alone", x, x.rest(1, 1), 0, "0/1");
        x.meter(2, 0, 7, 99);
        Check.makes("of what shows 0", x, x.rest(3, 1), 1, "1/99");
        Check.makes("its rest", x, x.rest(3, 0), 1, "7/1");
    }

    private static void worst() {
        Check.sentence("THE WORST: not STRUCK, of a WHOLE island, with SPREAD above 0");
        GridHouse x = Check.house(NET);
        Check.is("no meters", x.worst(), -1);
        x.meter(2, 1, 9, 1);
        Check.is("not WHOLE", x.worst(), -1);
        x.meter(2, 2, 9, 1);
        Check.is("each alone, SPREAD 0", x.worst(), -1);
        x.meter(2, 3, 1, 1);
        Check.is("worst", x.worst(), 2);
        x.strike(2, true);
        Check.is("STRUCK", x.worst(), -1);
        x.strike(2, false);
        x.strike(1, true);
        x.meter(2, 1, 9000, 9);
        Check.is("a greater one, not of a WHOLE island", x.worst(), 2);
        x.strike(1, false);
        Check.is("now it is", x.worst() != 2, true);
        x.set(2, 0, 0, 0);
        x.set(2, 1, 0, 0);
        Check.is("by REST^2 w", x.worst(), 3);
    }

    private static int beside(GridHouse x, int m) {
        return x.meter(2, 15 - m % 16, 100 * (15 - m % 16) + (m < 16 ? -1 : 3), m < 16 ? 3 : 1);
    }

    /** 32 meters, none STRUCK, on sixteen bars in a row: two of each bar's angle, 1 and 3 beside the true one. */
    private static void allMeters() {
        Check.sentence("METERS (32): all count");
        StringBuilder t = new StringBuilder();
        for (int b = 0; b < 16; b++) {
            t.append("bar b").append(b).append(";");
        }
        for (int l = 0; l < 15; l++) {
            t.append("line l").append(l).append(" b").append(l).append(" b").append(l + 1).append(" 9 1 1;");
        }
        GridHouse y = Check.house(t.toString());
        for (int m = 0; m < 32; m++) {
            Check.is("meter", beside(y, m), m);
            Check.is("seen", y.seen(0), m < 14 ? 1 : 2);
            Check.is("seen", y.seen(15), m < 14 ? 1 : 2);
            Check.is("seen", y.seen(1), m < 14 ? 0 : 2);
        }
        GridHouse x = Check.house(t.toString());
        for (int m = 0; m < 32; m++) {
            beside(x, m);
        }
        for (int b = 0; b < 16; b++) {
            Check.makes("estimate", x, x.estimate(b), b == 0 ? 0 : 1, 100 * b + "/1");
        }
        for (int m = 0; m < 32; m += m < 14 || m > 16 ? 4 : 1) {
            boolean first = m % 16 == 15;
            Check.makes("rest", x, x.rest(m, 0), m < 16 ? -1 : 1, (m < 16 ? 1 : 3) + "/1");
            Check.makes("spread", x, x.rest(m, 1), 1, first ? m < 16 ? "1/3" : "1/1" : m < 16 ? "1/12" : "3/4");
        }
        // 1 by 1/12, and 9 by 3/4, are 12
        Check.is("worst", x.worst(), 0);
        x.strike(16, true);
        Check.is("then m 0 tells b15 alone", x.worst(), 1);
        x.strike(16, false);
        x.strike(0, true);
        Check.is("worst", x.worst(), 1);
        for (int m = 1; m < 15; m++) {
            x.strike(m, true);
        }
        Check.is("9 by 1", x.worst(), 31);
    }

    private static void ties() {
        Check.sentence("whose REST^2 / SPREAD is greatest; of several the first");
        // each alone shows 0: REST is v, SPREAD 1 / w, so it is v^2 w
        int[][][] meters = {
            {{5, 4}, {10, 1}, {-10, 1}, {-5, 4}}, {{10, 1}, {5, 4}}, {{-10, 1}, {10, 1}}, {{0, 1}, {0, 99}},
            {{5, 4}, {10, 1}, {101, 1}, {101, 1}}, {{99999, 99}, {-99999, 99}},
            {{99998, 99}, {99999, 99}, {-99999, 99}}, {{0, 1}, {1, 1}, {-1, 1}}, {{7, 2}, {5, 4}, {10, 1}, {3, 11}},
            {{1, 99}, {10, 1}, {-1, 99}}, {{1, 99}, {9, 1}}};
        int[] due = {0, 0, 0, 0, 2, 0, 1, 1, 1, 1, 0};
        for (int i = 0; i < meters.length; i++) {
            GridHouse x = Check.house("bar a;");
            for (int[] m : meters[i]) {
                x.meter(2, 0, m[0], m[1]);
            }
            Check.is("worst of row " + i, x.worst(), due[i]);
        }
    }
}
