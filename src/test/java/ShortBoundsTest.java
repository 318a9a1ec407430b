/** Each boundary that the document names for shorts: section 4, promises 28 to 33. */
public final class ShortBoundsTest {
    /** From b the positive net is 6 away from earth, the zero net 11. */
    private static final String NET = "bar a;bar b;bar c;line l a b 4 8 1;machine g a 2 3 0 9 1 1 1 1;load p b 5;"
            + "machine h c 99 299 0 9 1 1 1 1;";
    private static final int[] NOTHING = {0, 0, 0};
    private static final int[] FIRST = {0, 1, 0};
    private static final int[] TWO = {0, 1, -1};
    private static final int[] ALL = {1, 1, 1};
    private static final int[] EARTH = {-1, 1, -1};

    private ShortBoundsTest() {
    }

    public static void main(String[] args) {
        kindsAndZ();
        parts();
        zeros();
        meshed();
        oneNode();
        voids();
        voltages();
        currents();
        squares();
        machines();
        latest();
        Check.close("ShortBoundsTest");
    }

    private static void into(String what, GridHouse x, int[] signs, String zero, String one, String two) {
        String[] due = {zero, one, two};
        for (int s = 0; s < 3; s++) {
            Check.makes(what + ", into " + s, x, x.into(s), signs[s], due[s]);
        }
    }

    private static void kindsAndZ() {
        GridHouse x = Check.house(NET);
        Check.sentence("kind 0: E / (p + z), 0, 0; z 0 .. 99");
        x.shortAt(0, 1, 0);
        into("z 0", x, FIRST, "0/1", "500/3", "0/1");
        x.shortAt(0, 1, 99);
        into("z 99", x, FIRST, "0/1", "200/21", "0/1");
        Check.sentence("Kind 1: each E / (2 p + q + 3 z)");
        x.shortAt(1, 1, 0);
        into("z 0", x, ALL, "1000/23", "1000/23", "1000/23");
        x.shortAt(1, 1, 99);
        into("z 99", x, ALL, "25/8", "25/8", "25/8");
        Check.sentence("Kind 2: E / (2 p + z), - I1, 0");
        x.shortAt(2, 1, 0);
        into("z 0", x, TWO, "0/1", "250/3", "250/3");
        x.shortAt(2, 1, 99);
        into("z 99", x, TWO, "0/1", "1000/111", "1000/111");
        Check.sentence("Kind 3, with h = q + 3 z");
        x.shortAt(3, 1, 0);
        into("z 0", x, EARTH, "250/7", "2125/21", "1375/21");
        x.shortAt(3, 1, 99);
        into("z 99", x, EARTH, "500/311", "78500/933", "77000/933");
        Check.sentence("Promise 28: kind is not 0 .. 3, z not 0 .. 99");
        for (int k : new int[] {-1, 4}) {
            Check.refuses("kind", Check.ARGUMENT, () -> x.shortAt(k, 1, 0));
            Check.refuses("kind", Check.ARGUMENT, () -> x.shortOn(k, 0, 1, 0));
        }
        for (int z : new int[] {-1, 100}) {
            Check.refuses("z", Check.ARGUMENT, () -> x.shortAt(0, 1, z));
            Check.refuses("z", Check.ARGUMENT, () -> x.shortOn(0, 0, 1, z));
        }
        into("the one there was", x, EARTH, "500/311", "78500/933", "77000/933");
        Check.sentence("at a bar: the first and the last");
        x.shortAt(0, 0, 0);
        into("a", x, FIRST, "0/1", "500/1", "0/1");
        x.shortAt(0, 2, 0);
        into("c", x, FIRST, "0/1", "1000/99", "0/1");
        Check.refuses("bar", Check.INDEX, () -> x.shortAt(0, 3, 0));
        Check.refuses("bar", Check.INDEX, () -> x.shortAt(0, -1, 0));
        into("the one there was", x, FIRST, "0/1", "1000/99", "0/1");
    }

    private static void parts() {
        Check.sentence("on a line, k sixteenths from its end 0, k 1 .. 15");
        GridHouse x = Check.house(NET);
        String[] one = {"4000/9", "400/1", "4000/11", "1000/3", "4000/13", "2000/7", "800/3", "250/1", "4000/17",
            "2000/9", "4000/19", "200/1", "4000/21", "2000/11", "4000/23"};
        for (int k = 1; k <= 15; k++) {
            x.shortOn(0, 0, k, 0);
            Check.makes("k " + k, x, x.into(1), 1, one[k - 1]);
            Check.makes("into the line at end 0", x, x.current(0, 0, 1), 1, one[k - 1]);
            Check.makes("into the line at end 1", x, x.current(0, 1, 1), 0, "0/1");
        }
        for (int k : new int[] {0, 16}) {
            Check.refuses("k", Check.ARGUMENT, () -> x.shortOn(0, 0, k, 0));
        }
        Check.refuses("line", Check.INDEX, () -> x.shortOn(0, 1, 1, 0));
        Check.refuses("line", Check.INDEX, () -> x.shortOn(0, -1, 1, 0));
        Check.sentence("with Z k / 16");
        x.shortOn(1, 0, 1, 0);
        into("2 9/4 and 7/2", x, ALL, "125/1", "125/1", "125/1");
        x.shortOn(1, 0, 15, 0);
        into("2 23/4 and 21/2", x, ALL, "500/11", "500/11", "500/11");
        Check.makes("I0", x, x.current(0, 0, 0), 1, "500/11");
        Check.makes("I0", x, x.current(0, 1, 0), 0, "0/1");
        x.shortOn(0, 0, 15, 99);
        into("23/4 and 99", x, FIRST, "0/1", "4000/419", "0/1");
        Check.sentence("from end 1 with X (16 - k) / 16");
        x.set(3, 0, 0, 0);
        GridHouse y = Check.house("bar a;bar b;line l a b 4 8 1;machine g b 2 3 0 9 1 1 1 1;");
        y.shortOn(0, 0, 15, 0);
        Check.makes("2 and 1/4", y, y.into(1), 1, "4000/9");
        Check.makes("into the line at end 1", y, y.current(0, 1, 1), 1, "4000/9");
        Check.makes("into the line at end 0", y, y.current(0, 0, 1), 0, "0/1");
        y.shortOn(1, 0, 1, 0);
        into("2 23/4 and 21/2", y, ALL, "500/11", "500/11", "500/11");
    }

    private static void zeros() {
        Check.sentence("there is no P0, if no machine that is ON there has a Z above 0");
        GridHouse x = Check.house(NET);
        for (int turn = 0; turn < 2; turn++) {
            x.set(3, 0, 3, 0);
            x.shortAt(1, 1, 99);
            Check.sentence("Kind 1 without P0 all 0");
            into("h has a Z in another island", x, NOTHING, "0/1", "0/1", "0/1");
            Check.makes("V1", x, x.voltage(1, 1), 1, "1000/1");
            Check.makes("V0", x, x.voltage(1, 0), 0, "0/1");
            Check.sentence("without P0 as kind 2 with z 0");
            x.shortAt(3, 1, 99);
            into("kind 3", x, TWO, "0/1", "250/3", "250/3");
            Check.makes("V1", x, x.voltage(1, 1), 1, "500/1");
            Check.makes("V2", x, x.voltage(1, 2), 1, "500/1");
            Check.sentence("V0 = 0 without P0");
            Check.makes("V0", x, x.voltage(1, 0), 0, "0/1");
            Check.makes("V0", x, x.voltage(0, 0), 0, "0/1");
            Check.makes("I0", x, x.current(0, 0, 0), 0, "0/1");
            x.shortAt(2, 1, 99);
            into("kind 2", x, TWO, "0/1", "1000/111", "1000/111");
            x.shortAt(0, 1, 99);
            into("kind 0", x, FIRST, "0/1", "200/21", "0/1");
            x.shortOn(3, 0, 8, 7);
            into("2 and 2, twice", x, TWO, "0/1", "125/1", "125/1");
            // Z 1 is above 0
            x.set(3, 0, 3, 1);
            x.shortAt(1, 1, 0);
            into("12 and 9", x, ALL, "1000/21", "1000/21", "1000/21");
        }
        Check.sentence("nothing to EARTH for a machine with Z 0");
        GridHouse y = Check.house("bar a;bar b;line l a b 4 8 1;machine g a 2 0 0 9 1 1 1 1;"
                + "machine h b 6 3 0 9 1 1 1 1;");
        // p is 2 beside 10, q is 8 and 3
        y.shortAt(1, 0, 0);
        into("2 5/3 and 11", y, ALL, "3000/43", "3000/43", "3000/43");
        y.set(3, 1, 0, 0);
        into("the one with a Z is not ON", y, NOTHING, "0/1", "0/1", "0/1");
    }

    /** Two ways to earth: p is 1 beside 2, q 2 beside 3. */
    private static void meshed() {
        Check.sentence("P1(n) is the potential of node n, if 1 flows in at the PLACE; P0(n) likewise in the ZERO NET");
        GridHouse x = Check.house("bar a;bar b;line l a b 1 2 1;machine g a 1 1 0 9 1 1 1 1;"
                + "machine h b 1 2 0 9 1 1 1 1;");
        x.shortAt(0, 1, 0);
        into("2/3", x, FIRST, "0/1", "1500/1", "0/1");
        x.shortAt(2, 1, 1);
        into("7/3", x, TWO, "0/1", "3000/7", "3000/7");
        x.shortAt(1, 1, 1);
        into("4/3, 6/5 and 3", x, ALL, "15000/83", "15000/83", "15000/83");
        x.shortAt(1, 1, 0);
        into("4/3 and 6/5", x, ALL, "7500/19", "7500/19", "7500/19");
        Check.makes("V1", x, x.voltage(0, 1), 1, "16500/19");
        Check.makes("V2", x, x.voltage(0, 2), -1, "2500/19");
        Check.makes("V0", x, x.voltage(0, 0), -1, "3000/19");
        Check.makes("a third", x, x.current(0, 0, 1), 1, "2500/19");
        Check.makes("two fifths", x, x.current(0, 0, 0), 1, "3000/19");
        x.shortAt(3, 1, 0);
        into("h is 6/5", x, EARTH, "7500/23", "21000/23", "13500/23");
        x.shortAt(3, 1, 1);
        into("h is 21/5", x, EARTH, "1875/17", "27375/34", "23625/34");
    }

    private static void oneNode() {
        Check.sentence("also if both ends are one node");
        GridHouse x = Check.house("bar a;bar b;switch s a b closed 1;line l a b 4 8 1;machine g a 2 3 0 9 1 1 1 1;");
        x.shortOn(0, 0, 8, 0);
        Check.makes("2 beside 2, and 2", x, x.into(1), 1, "1000/3");
        Check.makes("half of it", x, x.current(0, 0, 1), 1, "500/3");
        Check.makes("half of it", x, x.current(0, 1, 1), 1, "500/3");
        x.shortOn(1, 0, 8, 0);
        // p is 3, q 3 and 2
        into("2 3 and 5", x, ALL, "1000/11", "1000/11", "1000/11");
        x.shortOn(0, 0, 1, 0);
        // 1/4 beside 15/4
        Check.makes("15/64 and 2", x, x.into(1), 1, "64000/143");
        x.shortAt(0, 1, 0);
        Check.makes("at the node: no way over the line", x, x.into(1), 1, "500/1");
        Check.makes("nothing flows from a node to itself", x, x.current(0, 0, 1), 0, "0/1");
    }

    private static void voids() {
        Check.sentence("It is VOID, if the line is not IN, or the island (of the bar, the line) is DEAD");
        GridHouse x = Check.house(NET);
        x.shortOn(0, 0, 4, 0);
        x.set(2, 0, 0, 0);
        into("the line is not IN", x, NOTHING, "0/1", "0/1", "0/1");
        Check.makes("V1 is E", x, x.voltage(0, 1), 1, "1000/1");
        Check.makes("0 in a DEAD island", x, x.voltage(1, 1), 0, "0/1");
        Check.makes("0, if it is not IN", x, x.current(0, 0, 1), 0, "0/1");
        Check.is("it is still the SHORT", x.begin(), 0);
        x.set(2, 0, 0, 1);
        into("it is IN again", x, FIRST, "0/1", "1000/3", "0/1");
        x.set(3, 0, 0, 0);
        into("the island is DEAD", x, NOTHING, "0/1", "0/1", "0/1");
        Check.makes("in a DEAD island all are 0", x, x.voltage(0, 1), 0, "0/1");
        Check.makes("in a DEAD island all are 0", x, x.voltage(1, 3), 0, "0/1");
        Check.makes("V1 is E in another one", x, x.voltage(2, 1), 1, "1000/1");
        x.shortAt(2, 1, 0);
        into("the bar's island is DEAD", x, NOTHING, "0/1", "0/1", "0/1");
        x.set(3, 0, 0, 1);
        into("it is LIVE again", x, TWO, "0/1", "250/3", "250/3");
        x.set(2, 0, 0, 0);
        into("b alone is DEAD", x, NOTHING, "0/1", "0/1", "0/1");
        Check.is("clearShort", x.clearShort(), true);
        Check.is("clearShort", x.clearShort(), false);
        Check.makes("0 without one", x, x.into(1), 0, "0/1");
        Check.sentence("Loads do not matter");
        GridHouse y = Check.house(NET);
        y.shortAt(0, 1, 0);
        y.set(3, 0, 9, 0);
        y.set(4, 0, 0, 9999);
        Check.is("STUCK", y.bar(1, 3), 1);
        into("as without a load", y, FIRST, "0/1", "500/3", "0/1");
    }

    private static void voltages() {
        Check.sentence("VOLTAGES of a node in that island; in other LIVE islands, and without a SHORT, V1 is E, V2 "
                + "and V0 0");
        GridHouse x = Check.house(NET);
        String[] whole = {"0/1", "1000/1", "0/1", "1000000/1", "1000000/1"};
        for (int bar = 0; bar < 3; bar++) {
            for (int s = 0; s < 5; s++) {
                Check.makes("without a SHORT", x, x.voltage(bar, s), whole[s].equals("0/1") ? 0 : 1, whole[s]);
            }
        }
        x.shortAt(1, 1, 0);
        for (int s = 0; s < 5; s++) {
            Check.makes("in another island", x, x.voltage(2, s), whole[s].equals("0/1") ? 0 : 1, whole[s]);
        }
        Check.makes("V1", x, x.voltage(1, 1), 1, "17000/23");
        Check.makes("V2", x, x.voltage(1, 2), -1, "6000/23");
        Check.makes("V0", x, x.voltage(1, 0), -1, "11000/23");
        Check.makes("phase a at the PLACE", x, x.voltage(1, 3), 0, "0/1");
        Check.makes("V1", x, x.voltage(0, 1), 1, "21000/23");
        Check.makes("V2", x, x.voltage(0, 2), -1, "2000/23");
        Check.makes("V0", x, x.voltage(0, 0), -1, "3000/23");
        Check.sentence("Promise 32: V0, V1, V2 (s), or the square of phase a (3), b (4); another s");
        Check.makes("phase a", x, x.voltage(0, 3), 1, "256000000/529");
        // (- 3000 - 9500)^2 + 3/4 23000^2, by 23^2
        Check.makes("phase b", x, x.voltage(0, 4), 1, "553000000/529");
        Check.refuses("s", Check.ARGUMENT, () -> x.voltage(0, -1));
        Check.refuses("s", Check.ARGUMENT, () -> x.voltage(0, 5));
        Check.refuses("bar", Check.INDEX, () -> x.voltage(3, 0));
    }

    private static void currents() {
        Check.sentence("Promise 33: a current into a line at end 0 or 1, s as in voltage()");
        GridHouse x = Check.house(NET);
        x.shortAt(1, 1, 0);
        int[] signs = {1, 1, 1, 1, 1};
        String[] due = {"1000/23", "1000/23", "1000/23", "9000000/529", "0/1"};
        for (int s = 0; s < 5; s++) {
            int sign = s == 4 ? 0 : signs[s];
            Check.makes("end 0", x, x.current(0, 0, s), sign, due[s]);
            Check.makes("end 1", x, x.current(0, 1, s), s < 3 ? -sign : sign, due[s]);
        }
        Check.refuses("end", Check.ARGUMENT, () -> x.current(0, -1, 0));
        Check.refuses("end", Check.ARGUMENT, () -> x.current(0, 2, 0));
        Check.refuses("s", Check.ARGUMENT, () -> x.current(0, 0, -1));
        Check.refuses("s", Check.ARGUMENT, () -> x.current(0, 1, 5));
        Check.refuses("line", Check.INDEX, () -> x.current(1, 0, 0));
        Check.sentence("by X (Z for 0)");
        x.set(2, 0, 2, 16);
        // q is 3 and 16 now
        Check.makes("I0", x, x.current(0, 0, 0), 1, "1000/31");
        Check.makes("I1", x, x.current(0, 0, 1), 1, "1000/31");
        Check.sentence("0, if it is not IN");
        x.set(2, 0, 0, 0);
        for (int s = 0; s < 5; s++) {
            Check.makes("not IN", x, x.current(0, 0, s), 0, "0/1");
        }
    }

    private static void squares() {
        Check.sentence("of phase a (s0 + s1 + s2)^2, of phase b (s0 - (s1 + s2) / 2)^2 + 3 / 4 (s1 - s2)^2");
        GridHouse x = Check.house(NET);
        x.shortAt(2, 1, 0);
        Check.makes("s1 less itself", x, x.current(0, 0, 3), 0, "0/1");
        Check.makes("three times the square of 250/3", x, x.current(0, 0, 4), 1, "62500/3");
        x.shortAt(0, 1, 4);
        Check.makes("100", x, x.current(0, 0, 3), 1, "10000/1");
        Check.makes("100", x, x.current(0, 1, 4), 1, "10000/1");
        x.shortAt(3, 1, 0);
        // - 250/7 + 2125/21 - 1375/21 is 0
        Check.makes("phase a", x, x.current(0, 0, 3), 0, "0/1");
        Check.makes("phase b", x, x.current(0, 0, 4), 1, "3484375/147");
    }

    private static void machines() {
        Check.sentence("from the node of each machine that is ON X to EARTH");
        StringBuilder t = new StringBuilder("bar a;bar b;switch s a b closed 1;");
        for (int m = 0; m < 6; m++) {
            t.append("machine g").append(m).append(m % 2 == 0 ? " a" : " b").append(" 1 1 0 9 1 1 1 1;");
        }
        GridHouse x = Check.house(t.toString());
        x.shortAt(0, 1, 0);
        for (int m = 6; m > 0; m--) {
            Check.makes("with " + m, x, x.into(1), 1, 1000 * m + "/1");
            x.set(3, m - 1, 0, 0);
        }
        Check.makes("with none", x, x.into(1), 0, "0/1");
        x.set(3, 3, 0, 1);
        x.set(3, 3, 2, 99);
        Check.makes("X 99", x, x.into(1), 1, "1000/99");
        x.shortAt(0, 0, 99);
        Check.makes("and z 99", x, x.into(1), 1, "500/99");
    }

    private static void latest() {
        Check.sentence("There may be one SHORT");
        GridHouse x = Check.house(NET);
        x.shortOn(3, 0, 15, 9);
        x.shortAt(0, 1, 0);
        into("at a bar, not on the line", x, FIRST, "0/1", "500/3", "0/1");
        x.shortOn(0, 0, 8, 0);
        into("on the line, not at the bar", x, FIRST, "0/1", "250/1", "0/1");
        Check.is("clearShort", x.clearShort(), true);
        Check.is("there was one only", x.clearShort(), false);
        Check.refuses("begin", Check.STATE, () -> x.begin());
        x.shortAt(0, 0, 0);
        Check.is("begin", x.begin(), 0);
        Check.sentence("Promise 31: s is not 0 .. 2");
        Check.makes("I0", x, x.into(0), 0, "0/1");
        Check.makes("I2", x, x.into(2), 0, "0/1");
        Check.refuses("s", Check.ARGUMENT, () -> x.into(-1));
        Check.refuses("s", Check.ARGUMENT, () -> x.into(3));
    }
}
