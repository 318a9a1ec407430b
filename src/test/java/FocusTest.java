import java.util.ArrayList;
import java.util.List;
import java.util.Random;

/** Nets made for one subject each, so that what seldom comes by chance comes often; compared with the Reference. */
public final class FocusTest {
    private interface Subject {
        void go(FocusTest t);
    }

    private final Random random;
    private final Pair pair = new Pair();
    private int bars;
    private final List<String> parts = new ArrayList<>();
    private int switches;
    private int lines;
    private int machines;
    private int loads;

    private FocusTest(long seed) {
        random = new Random(seed);
    }

    public static void main(String[] args) {
        long first = args.length > 0 ? Long.parseLong(args[0]) : 1;
        int times = args.length > 1 ? Integer.parseInt(args[1]) : 1;
        String only = args.length > 2 ? args[2] : "";
        boolean tell = args.length > 3;
        String[] names = {"flows", "estimates", "shorts", "runs", "dispatch", "ties", "restore", "orders", "widest"};
        Subject[] subjects = {FocusTest::flows, FocusTest::estimates, FocusTest::shorts, FocusTest::runs,
            FocusTest::dispatches, FocusTest::ties, FocusTest::restores, FocusTest::orders, FocusTest::widest};
        int[] runs = {60, 60, 90, 80, 80, 60, 60, 60, 32};
        int wrong = 0;
        for (int k = 0; k < subjects.length; k++) {
            for (int i = 0; i < runs[k] * times && wrong < 3 && names[k].startsWith(only); i++) {
                FocusTest t = new FocusTest(first * 1000003 + i);
                subjects[k].go(t);
                if (!t.pair.same || tell) {
                    wrong += t.pair.same ? 0 : 1;
                    System.out.println(names[k] + " " + i + ":\n" + t.pair.log);
                }
            }
        }
        System.out.println(wrong == 0 ? "all subjects are alike" : "subjects are not alike");
        if (wrong != 0) {
            System.exit(1);
        }
    }

    private int upTo(int n) {
        return random.nextInt(n + 1);
    }

    private boolean one(int of) {
        return random.nextInt(of) == 0;
    }

    private void bars(int n) {
        bars = n;
        for (int i = 0; i < n; i++) {
            parts.add("bar b" + i + ";");
        }
    }

    private void sw(int a, int b, boolean closed, int time) {
        parts.add("switch s" + switches++ + " b" + a + " b" + b + (closed ? " closed " : " open ") + time + ";");
    }

    private void line(int a, int b, int x, int z, int limit) {
        parts.add("line l" + lines++ + " b" + a + " b" + b + " " + x + " " + z + " " + limit + ";");
    }

    private void machine(int a, int x, int z, int lo, int hi, int c, int m, int d, int s) {
        parts.add("machine m" + machines++ + " b" + a + " " + x + " " + z + " " + lo + " " + hi + " " + c + " " + m + " "
                + d + " " + s + ";");
    }

    private void load(int a, int mw) {
        parts.add("load p" + loads++ + " b" + a + " " + mw + ";");
    }

    private int other(int a) {
        return (a + 1 + upTo(bars - 2)) % bars;
    }

    /** A net whose bars are mostly joined: a tree of lines and switches, and some more of both. */
    private void joined(int n, int moreLines, int moreSwitches, int widest, int limit) {
        bars(n);
        for (int i = 1; i < n; i++) {
            int a = upTo(i - 1);
            if (one(4)) {
                sw(a, i, !one(8), 1 + upTo(30));
            } else {
                line(a, i, 1 + upTo(widest - 1), 1 + upTo(widest * 3 - 1), upTo(limit));
            }
        }
        for (int i = 0; i < moreLines && lines < 20; i++) {
            int a = upTo(n - 1);
            line(a, other(a), 1 + upTo(widest - 1), 1 + upTo(widest * 3 - 1), upTo(limit));
        }
        for (int i = 0; i < moreSwitches && switches < 24; i++) {
            int a = upTo(n - 1);
            sw(a, other(a), one(2), 1 + upTo(30));
        }
    }

    private void tell() {
        pair.net(String.join(one(2) ? "\n" : "", parts));
    }

    private void flows() {
        joined(2 + upTo(7), upTo(5), upTo(2), one(3) ? 99 : 6, 40);
        for (int i = upTo(2); i >= 0; i--) {
            machine(upTo(bars - 1), 1, 1, upTo(30), 40 + upTo(60), 1, 20, 2, one(4) ? 0 : upTo(4));
        }
        for (int i = upTo(3); i >= 0; i--) {
            load(upTo(bars - 1), upTo(40));
        }
        tell();
        for (int round = 0; round < 6 && pair.same; round++) {
            for (int sort = 10; sort <= 15; sort++) {
                pair.count(sort);
            }
            pair.angle(upTo(bars - 1));
            pair.carries(upTo(Math.max(0, lines - 1)));
            pair.gives(upTo(machines - 1));
            long n = pair.screen();
            for (int k = 0; k <= n; k++) {
                for (int what = 0; what < 4; what++) {
                    pair.trouble(k, what);
                }
            }
            change();
        }
    }

    private void change() {
        switch (upTo(4)) {
            case 0:
                pair.set(1, upTo(switches), 0, upTo(2));
                break;
            case 1:
                pair.set(2, upTo(lines), 0, upTo(1));
                break;
            case 2:
                pair.set(2, upTo(lines), 3, upTo(60));
                break;
            case 3:
                pair.set(3, upTo(machines), upTo(1), upTo(1));
                break;
            default:
                pair.set(4, upTo(loads), 0, upTo(50));
                break;
        }
    }

    private void estimates() {
        boolean great = one(8);
        joined(great ? 10 + upTo(6) : 2 + upTo(5), upTo(great ? 10 : 3), 1, one(3) ? 99 : 6, 40);
        if (one(3)) {
            line(0, 1, 97, 89, 5);
        }
        tell();
        int meters = great ? 20 + upTo(12) : upTo(bars + 3);
        for (int i = 0; i < meters; i++) {
            int kind = upTo(2);
            if (kind == 0 && lines == 0) {
                kind = 1;
            }
            pair.meter(kind, upTo((kind == 0 ? lines : bars) - 1), upTo(300) - 150, 1 + upTo(one(2) ? 2 : 98));
        }
        for (int round = 0; round < 4 && pair.same; round++) {
            for (int b = 0; b < bars; b++) {
                pair.seen(b);
            }
            pair.estimate(upTo(bars - 1));
            pair.worst();
            if (meters > 0) {
                pair.rest(upTo(meters - 1), 0);
                pair.rest(upTo(meters - 1), 1);
                pair.strike(upTo(meters - 1), !one(4));
                pair.strike(upTo(meters - 1), one(3));
            }
            pair.set(2, upTo(lines), 0, one(3) ? 0 : 1);
            pair.set(1, upTo(switches), 0, one(3) ? 0 : 1);
        }
    }

    private void shorts() {
        boolean great = one(6);
        joined(great ? 12 + upTo(4) : 2 + upTo(5), upTo(great ? 9 : 4), upTo(2), one(3) ? 99 : 6, 40);
        for (int i = upTo(great ? 5 : 2); i >= 0; i--) {
            machine(upTo(bars - 1), 1 + upTo(one(2) ? 98 : 4), one(3) ? 0 : 1 + upTo(one(2) ? 298 : 4), 0, 9, 1, 1, 1, 1);
        }
        load(0, 5);
        tell();
        for (int round = 0; round < (great ? 2 : 5) && pair.same; round++) {
            if (one(2) || lines == 0) {
                pair.shortAt(upTo(3), upTo(bars - 1), upTo(1) * upTo(99));
            } else {
                pair.shortOn(upTo(3), upTo(lines - 1), 1 + upTo(14), upTo(1) * upTo(99));
            }
            for (int s = 0; s < 3; s++) {
                pair.into(s);
            }
            for (int s = 0; s < 5; s++) {
                pair.voltage(upTo(bars - 1), s);
                if (lines > 0) {
                    pair.current(upTo(lines - 1), upTo(1), s);
                }
            }
            if (one(3)) {
                pair.set(2, upTo(lines), 0, upTo(1));
                pair.set(3, upTo(machines), 0, upTo(1));
                pair.into(1);
                pair.voltage(upTo(bars - 1), upTo(4));
            }
        }
    }

    private void runs() {
        // with a unit of 10 much happens at one TIME; each line has switches of its own at both ends
        int unit = one(2) ? 10 : 1;
        int n = 2 + upTo(2);
        int k = Math.min(6, n - 1 + upTo(2));
        bars(n + 2 * k);
        for (int i = 0; i < k; i++) {
            int a = i < n - 1 ? i : upTo(n - 1);
            int b = i < n - 1 ? i + 1 : (a + 1 + upTo(n - 2)) % n;
            sw(a, n + 2 * i, !one(10), unit * (1 + upTo(20 / unit)));
            sw(b, n + 2 * i + 1, !one(10), unit * (1 + upTo(20 / unit)));
            line(n + 2 * i, n + 2 * i + 1, 1 + upTo(5), 1 + upTo(9), 100);
        }
        for (int i = upTo(1); i >= 0; i--) {
            machine(upTo(n - 1), 1 + upTo(3), upTo(3), 0, 100, 1, 1, 1, 1);
        }
        tell();
        pair.shortOn(upTo(3), upTo(lines - 1), 1 + upTo(14), one(2) ? 0 : upTo(9));
        int relays = 1 + upTo(7);
        for (int r = 0; r < relays; r++) {
            int l = upTo(lines - 1);
            int end = upTo(1);
            int kind = upTo(1);
            pair.relay(l, end, one(6) ? upTo(switches - 1) : 2 * l + end, kind);
            for (int i = upTo(2); i >= 0; i--) {
                pair.row(r, kind == 0 ? upTo(one(2) ? 100 : 400) : upTo(12), unit * upTo(2) * upTo(40 / unit));
            }
        }
        for (int round = 0; round < 3 && pair.same; round++) {
            pair.backup(one(3) ? 0 : unit * upTo(40 / unit));
            pair.fails(upTo(switches - 1), !one(3));
            pair.begin();
            int time = 0;
            for (int i = 0; i < 6; i++) {
                pair.run(time);
                pair.ordered(upTo(switches - 1));
                time += upTo(40);
            }
            pair.met(upTo(relays - 1), 0);
            pair.voltage(upTo(bars - 1), upTo(4));
            pair.run(2000000);
            for (int i = 0; i < 5; i++) {
                pair.opened(i, 0);
                pair.opened(i, 1);
            }
            for (int s = 0; s < switches; s++) {
                pair.ordered(s);
            }
            if (one(2)) {
                pair.shortOn(upTo(3), upTo(lines - 1), 1 + upTo(14), upTo(9));
            }
        }
    }

    private void dispatches() {
        boolean great = one(10);
        joined(great ? 8 + upTo(6) : 2 + upTo(5), great ? 3 + upTo(6) : 1 + upTo(4), 0, one(3) ? 99 : 4, 30);
        int n = great ? 5 : 1 + upTo(3);
        for (int i = 0; i <= n; i++) {
            int lo = one(4) ? upTo(15) : 0;
            int c = upTo(one(2) ? 2 : 9);
            machine(upTo(bars - 1), 1, 1, lo, lo + upTo(60), c, upTo(40), c + upTo(2), 1);
        }
        for (int i = upTo(3); i >= 0; i--) {
            load(upTo(bars - 1), upTo(25));
        }
        tell();
        for (int round = 0; round < (great ? 2 : 4) && pair.same; round++) {
            pair.dispatch();
            pair.cost();
            for (int m = 0; m < machines; m++) {
                pair.sets(m);
            }
            for (int i = 0; i < (great ? 3 : bars); i++) {
                pair.price(great ? upTo(bars - 1) : i);
            }
            pair.set(2, upTo(lines), 3, upTo(30));
            pair.set(4, upTo(loads), 0, upTo(40));
            pair.set(3, upTo(machines), 5, 20 + upTo(60));
            if (one(4)) {
                pair.set(2, upTo(lines), 0, upTo(1));
                pair.set(3, upTo(machines), 0, upTo(1));
            }
        }
    }

    /** Machines mostly alike in cost on a mesh whose limits go down and up about where there is just a dispatch. */
    private void ties() {
        joined(4 + upTo(5), 3 + upTo(4), 0, one(3) ? 99 : 3, 60);
        int costs = upTo(2);
        for (int i = 4 + upTo(2); i > 0; i--) {
            int cost = upTo(costs);
            machine(upTo(bars - 1), 1, 1, one(6) ? upTo(4) : 0, 10 + upTo(50), cost, upTo(40), cost + upTo(costs), 1);
        }
        for (int i = 1 + upTo(3); i >= 0; i--) {
            load(upTo(bars - 1), upTo(25));
        }
        tell();
        for (int round = 0; round < 12 && pair.same && lines > 0; round++) {
            boolean isThere = pair.dispatch() == 1;
            pair.cost();
            for (int m = 0; m < machines && isThere; m++) {
                pair.sets(m);
            }
            if (one(3)) {
                pair.price(upTo(bars - 1));
            }
            for (int i = isThere ? 1 + upTo(1) : 3; i > 0; i--) {
                int l = upTo(lines - 1);
                int limit = pair.reference.get(2, l, 3);
                pair.set(2, l, 3, isThere ? limit * 2 / 3 : limit * 2 + 3);
            }
        }
    }

    private void restores() {
        bars(5 + upTo(4));
        int live = 2 + upTo(1);
        for (int i = 0; i < live; i++) {
            machine(i, 1, 1, 0, 50, 1, 1, 1, one(6) ? 0 : 1);
        }
        for (int i = live; i < bars; i++) {
            load(i, 1 + upTo(20));
        }
        for (int i = 0; i < 3; i++) {
            int a = upTo(bars - 1);
            line(a, other(a), 1 + upTo(4), 1, 5 + upTo(40));
        }
        int n = 5 + upTo(5);
        for (int i = 0; i < n; i++) {
            int a = upTo(bars - 1);
            sw(a, other(a), one(8), 1);
        }
        tell();
        pair.rules(closeRules());
        for (int round = 0; round < 4 && pair.same; round++) {
            for (int k = 1; k <= 3; k++) {
                pair.restore(k);
                for (int i = 0; i < 4; i++) {
                    pair.step(i);
                }
            }
            pair.set(1, upTo(switches), 0, upTo(2));
            pair.set(2, upTo(lines), 3, upTo(40));
            pair.order("tag s" + upTo(switches - 1) + ";earth b" + upTo(bars - 1) + ";");
            pair.carry();
        }
    }

    private String closeRules() {
        String[] conditions = {"joined from to", "earthed from or earthed to", "then over above 0",
            "then loops above 1", "not live from and not live to", "closed s0 and not closed s1",
            "lost below 20", "then lost above 30 and not (joined b0 b1 or live from)", "over above 0",
            "tagged s2", "not then live to"};
        StringBuilder t = new StringBuilder();
        for (int i = upTo(3); i > 0; i--) {
            t.append("no close if ").append(conditions[upTo(conditions.length - 1)]).append(";");
        }
        return t.toString();
    }

    private void orders() {
        joined(3 + upTo(4), upTo(2), 2 + upTo(3), 4, 20);
        sw(0, 1, one(2), 1);
        sw(1, 2, one(2), 1);
        machine(upTo(bars - 1), 1, 1, 5, 50, 1, 1, 1, one(3) ? 0 : 1);
        load(upTo(bars - 1), upTo(30));
        load(upTo(bars - 1), upTo(30));
        tell();
        Texts texts = new Texts(random);
        texts.bars = bars;
        texts.switches = switches;
        for (int round = 0; round < 12 && pair.same; round++) {
            if (one(2)) {
                pair.rules(texts.rules());
            }
            String order = texts.order();
            pair.order(one(6) ? texts.spoiled(order) : order);
            pair.barred(0);
            pair.barred(1);
            if (one(2)) {
                pair.carry();
            }
            pair.set(1, upTo(switches), 0, upTo(2));
            pair.count(15);
        }
    }

    /** Few nodes and all lines, with numbers that have nothing in common: the longest figures. */
    private void widest() {
        int[] x = {97, 89, 83, 79, 73, 71, 67, 61, 59, 53, 47, 43, 41, 64, 81, 25, 49, 99, 98, 95};
        int[] z = {293, 283, 281, 277, 271, 269, 263, 257, 251, 241, 239, 233, 229, 227, 223, 211, 199, 256, 243, 289};
        int[] g = {96, 94, 92, 91, 88, 87};
        int[] h = {299, 298, 297, 295, 294, 292};
        bars(2 + upTo(4));
        for (int i = 0; i < 20; i++) {
            int a = upTo(bars - 1);
            line(a, i < bars - 1 ? (i == a ? i + 1 : i) : other(a), x[i], z[i], 9000 + upTo(900));
        }
        for (int i = 0; i < 6; i++) {
            machine(upTo(bars - 1), g[i], h[i], 0, 9999, 990 + i, 5000 + i, 999, 4 + upTo(5));
        }
        for (int i = 0; i < 12; i++) {
            load(upTo(bars - 1), 3000 + upTo(1900));
        }
        tell();
        switch (upTo(3)) {
            case 0:
                widestFlows();
                break;
            case 1:
                widestEstimates();
                break;
            case 2:
                widestShorts();
                break;
            default:
                widestDispatch();
                break;
        }
    }

    private void widestFlows() {
        pair.screen();
        for (int b = 0; b < bars; b++) {
            pair.angle(b);
        }
        for (int l = 0; l < 20; l += 3) {
            pair.carries(l);
        }
    }

    private void widestEstimates() {
        for (int i = 0; i < 32; i++) {
            int kind = upTo(2);
            pair.meter(kind, upTo(kind == 0 ? 19 : bars - 1), 99999 - upTo(5000), 99 - upTo(3));
        }
        pair.worst();
        pair.estimate(bars - 1);
        pair.rest(5, 0);
        pair.rest(7, 1);
        pair.strike(5, true);
        pair.worst();
        pair.rest(5, 0);
    }

    private void widestShorts() {
        int kind = upTo(3);
        pair.shortOn(kind, upTo(19), 7 + upTo(2), 97);
        pair.into(upTo(2));
        pair.voltage(upTo(bars - 1), 3 + upTo(1));
        pair.current(upTo(19), upTo(1), 3 + upTo(1));
        pair.voltage(upTo(bars - 1), upTo(2));
        pair.current(upTo(19), upTo(1), upTo(2));
        pair.relay(upTo(19), upTo(1), 0, 1);
        pair.row(0, upTo(200), 1);
        pair.row(0, upTo(2000), 1);
        pair.begin();
    }

    private void widestDispatch() {
        int limit = 1000 + upTo(2000);
        for (int l = 0; l < 20; l++) {
            pair.set(2, l, 3, l < 6 ? limit : 9999);
        }
        pair.cost();
        pair.sets(2);
        pair.price(upTo(bars - 1));
    }
}
