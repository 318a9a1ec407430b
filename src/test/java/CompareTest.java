import java.util.Random;

/** The same calls, by seeded rows of numbers, on GridHouse and on the Reference; all answers are to be alike. */
public final class CompareTest {
    private final Random random;
    private final Pair pair = new Pair();
    private final GridHouse house = pair.house;
    private final Reference reference = pair.reference;
    private final Texts texts;

    private CompareTest(long seed) {
        random = new Random(seed);
        texts = new Texts(random);
    }

    public static void main(String[] args) {
        long first = args.length > 0 ? Long.parseLong(args[0]) : 1;
        int runs = args.length > 1 ? Integer.parseInt(args[1]) : 250;
        int size = args.length > 2 ? Integer.parseInt(args[2]) : -1;
        int wrong = 0;
        for (int i = 0; i < runs && wrong < 3; i++) {
            CompareTest t = new CompareTest(first + i);
            if (!t.run(size >= 0 ? size : i % 20 == 19 ? 2 : i % 4 == 3 ? 1 : 0)) {
                wrong++;
                System.out.println("seed " + (first + i) + ":\n" + t.pair.log);
            }
        }
        System.out.println(wrong == 0 ? runs + " rows of calls are alike" : "rows of calls are not alike");
        if (wrong != 0) {
            System.exit(1);
        }
    }

    private void compareHand() {
        pair.hands();
        int part = upTo(3) - 1;
        int i = upTo(30) - 2;
        pair.both("figure " + part + " " + i, () -> house.figure(part, i), () -> reference.figure(part, i));
        pair.both("figures " + part, () -> house.figures(part), () -> reference.figures(part));
    }

    private int upTo(int n) {
        return random.nextInt(n + 1);
    }

    /** Mostly an object's number, now and then none. */
    private int some(int count) {
        return random.nextInt(25) == 0 ? upTo(40) - 2 : count == 0 ? 0 : random.nextInt(count);
    }

    private void feed(String text) {
        pair.feed(text, random.nextInt(8) != 0);
    }

    private boolean run(int size) {
        feed(texts.net(size));
        pair.both("net", () -> house.net(), () -> reference.net());
        int calls = size == 2 ? 60 : 150;
        for (int i = 0; i < calls && pair.same; i++) {
            call(size);
        }
        return pair.same;
    }

    private void call(int size) {
        switch (upTo(11)) {
            case 0:
                texts();
                break;
            case 1:
            case 2:
            case 3:
                fields();
                break;
            case 4:
            case 5:
                flows();
                break;
            case 6:
                estimates();
                break;
            case 7:
                shorts();
                break;
            case 8:
                relays();
                break;
            case 9:
                runs();
                break;
            case 10:
                dispatches();
                break;
            default:
                orders();
                break;
        }
        if (upTo(2) == 0) {
            counts();
        }
    }

    private void counts() {
        int sort = upTo(17) - 1;
        pair.both("count " + sort, () -> house.count(sort), () -> reference.count(sort));
    }

    private void texts() {
        int which = upTo(9);
        boolean spoil = upTo(2) == 0;
        if (which == 0 && upTo(3) == 0) {
            String t = texts.net(upTo(1));
            feed(spoil ? texts.spoiled(t) : t);
            pair.both("net", () -> house.net(), () -> reference.net());
        } else if (which == 1) {
            feed(texts.pick("b0", "b1", "s0", "s11", "l0", "m0", "p0", "x", "", "b0 ", " b0", "bar", "abcdefghi"));
            pair.both("find", () -> house.find(), () -> reference.find());
        } else if (which < 6) {
            String t = texts.rules();
            feed(spoil ? texts.spoiled(t) : t);
            pair.both("rules", () -> house.rules(), () -> reference.rules());
        } else {
            String t = texts.order();
            feed(spoil ? texts.spoiled(t) : t);
            pair.both("order", () -> house.order(), () -> reference.order());
        }
    }

    private void fields() {
        int sort = random.nextInt(25) == 0 ? upTo(8) - 1 : upTo(4);
        int n = sort >= 0 && sort < 5 ? house.count(sort) : 0;
        int i = some(n);
        int field = upTo(12) - 1;
        switch (upTo(8)) {
            case 0:
                pair.both("get " + sort + " " + i + " " + field, () -> house.get(sort, i, field),
                        () -> reference.get(sort, i, field));
                break;
            case 1:
                pair.both("name " + sort + " " + i + " " + field, () -> house.name(sort, i, field),
                        () -> reference.name(sort, i, field));
                break;
            case 2:
            case 3:
                int k = upTo(4) - 1;
                pair.both("keep " + k, () -> {
                    house.keep(k);
                    return 0;
                }, () -> {
                    reference.keep(k);
                    return 0;
                });
                break;
            case 4:
                int b = upTo(4) - 1;
                pair.both("back " + b, () -> {
                    house.back(b);
                    return 0;
                }, () -> {
                    reference.back(b);
                    return 0;
                });
                break;
            default:
                int s = upTo(3) == 0 ? sort : 1 + upTo(3);
                int j = some(house.count(s < 0 || s > 4 ? 0 : s));
                int f = upTo(2) == 0 ? field : 0;
                int v = upTo(3) == 0 ? upTo(10500) - 100 : upTo(6) == 0 ? upTo(150) : upTo(2);
                pair.both("set " + s + " " + j + " " + f + " " + v, () -> house.set(s, j, f, v),
                        () -> reference.set(s, j, f, v));
                break;
        }
    }

    private void flows() {
        int bar = some(house.count(0));
        int line = some(house.count(2));
        int machine = some(house.count(3));
        int what = upTo(6) - 1;
        switch (upTo(5)) {
            case 0:
                pair.both("bar " + bar + " " + what, () -> house.bar(bar, what), () -> reference.bar(bar, what));
                break;
            case 1:
                pair.both("angle " + bar, () -> house.angle(bar), () -> reference.angle(bar));
                compareHand();
                break;
            case 2:
                pair.both("carries " + line, () -> house.carries(line), () -> reference.carries(line));
                compareHand();
                break;
            case 3:
                pair.both("gives " + machine, () -> house.gives(machine), () -> reference.gives(machine));
                compareHand();
                break;
            case 4:
                pair.both("screen", () -> house.screen(), () -> reference.screen());
                break;
            default:
                int k = upTo(4) - 1;
                pair.both("trouble " + k + " " + what, () -> house.trouble(k, what), () -> reference.trouble(k, what));
                break;
        }
    }

    private void estimates() {
        for (int i = upTo(6); i >= 0; i--) {
            int kind = random.nextInt(30) == 0 ? upTo(4) - 1 : upTo(2);
            int at = some(house.count(kind == 0 ? 2 : 0));
            int v = random.nextInt(30) == 0 ? 99998 + upTo(3) : upTo(400) - 200;
            int w = random.nextInt(30) == 0 ? upTo(1) * 100 : 1 + upTo(upTo(1) == 0 ? 3 : 98);
            pair.both("meter " + kind + " " + at + " " + v + " " + w, () -> house.meter(kind, at, v, w),
                    () -> reference.meter(kind, at, v, w));
        }
        for (int i = 0; i < 5; i++) {
            int bar = some(house.count(0));
            int meter = some(house.count(5));
            int what = upTo(9) == 0 ? upTo(3) - 1 : upTo(1);
            switch (upTo(4)) {
                case 0:
                    boolean is = upTo(2) == 0;
                    pair.both("strike " + meter + " " + is, () -> house.strike(meter, is) ? 1 : 0,
                            () -> reference.strike(meter, is) ? 1 : 0);
                    break;
                case 1:
                    pair.both("seen " + bar, () -> house.seen(bar), () -> reference.seen(bar));
                    break;
                case 2:
                    pair.both("estimate " + bar, () -> house.estimate(bar), () -> reference.estimate(bar));
                    compareHand();
                    break;
                case 3:
                    pair.both("rest " + meter + " " + what, () -> house.rest(meter, what), () -> reference.rest(meter, what));
                    compareHand();
                    break;
                default:
                    pair.both("worst", () -> house.worst(), () -> reference.worst());
                    break;
            }
        }
    }

    private void putShort() {
        int kind = random.nextInt(20) == 0 ? upTo(5) - 1 : upTo(3);
        int z = random.nextInt(20) == 0 ? upTo(102) - 1 : upTo(1) * upTo(20);
        int k = random.nextInt(20) == 0 ? upTo(17) : 1 + upTo(14);
        int bar = some(house.count(0));
        int line = some(house.count(2));
        if (upTo(1) == 0) {
            pair.both("shortAt " + kind + " " + bar + " " + z, () -> {
                house.shortAt(kind, bar, z);
                return 0;
            }, () -> {
                reference.shortAt(kind, bar, z);
                return 0;
            });
        } else {
            pair.both("shortOn " + kind + " " + line + " " + k + " " + z, () -> {
                house.shortOn(kind, line, k, z);
                return 0;
            }, () -> {
                reference.shortOn(kind, line, k, z);
                return 0;
            });
        }
    }

    private void shorts() {
        if (upTo(9) == 0) {
            pair.both("clearShort", () -> house.clearShort() ? 1 : 0, () -> reference.clearShort() ? 1 : 0);
        } else {
            putShort();
        }
        for (int i = 0; i < 4; i++) {
            int s = upTo(19) == 0 ? upTo(7) - 1 : upTo(4);
            int bar = some(house.count(0));
            int line = some(house.count(2));
            int end = upTo(19) == 0 ? upTo(3) - 1 : upTo(1);
            switch (upTo(2)) {
                case 0:
                    pair.both("into " + s, () -> house.into(s), () -> reference.into(s));
                    break;
                case 1:
                    pair.both("voltage " + bar + " " + s, () -> house.voltage(bar, s), () -> reference.voltage(bar, s));
                    break;
                default:
                    pair.both("current " + line + " " + end + " " + s, () -> house.current(line, end, s),
                            () -> reference.current(line, end, s));
                    break;
            }
            compareHand();
        }
    }

    private void relays() {
        if (upTo(2) == 0 || house.count(6) == 0) {
            int line = some(house.count(2));
            int sw = some(house.count(1));
            int end = upTo(19) == 0 ? upTo(3) - 1 : upTo(1);
            int kind = upTo(19) == 0 ? upTo(3) - 1 : upTo(1);
            pair.both("relay " + line + " " + end + " " + sw + " " + kind, () -> house.relay(line, end, sw, kind),
                    () -> reference.relay(line, end, sw, kind));
        }
        for (int i = upTo(2); i >= 0; i--) {
            int relay = some(house.count(6));
            int setting = upTo(29) == 0 ? upTo(1) * 100000 : upTo(1) == 0 ? upTo(60) : upTo(800);
            int delay = upTo(29) == 0 ? -1 + 10000001 * upTo(1) : upTo(2) * upTo(80);
            pair.both("row " + relay + " " + setting + " " + delay, () -> house.row(relay, setting, delay),
                    () -> reference.row(relay, setting, delay));
        }
        if (upTo(3) == 0) {
            int sw = some(house.count(1));
            boolean is = upTo(2) != 0;
            pair.both("fails " + sw + " " + is, () -> house.fails(sw, is) ? 1 : 0, () -> reference.fails(sw, is) ? 1 : 0);
        }
        if (upTo(3) == 0) {
            int us = upTo(9) == 0 ? -1 + 10000001 * upTo(1) : upTo(100);
            pair.both("backup " + us, () -> house.backup(us), () -> reference.backup(us));
        }
        for (int i = 0; i < 3; i++) {
            int relay = some(house.count(6));
            int row = upTo(3);
            pair.both("met " + relay + " " + row, () -> house.met(relay, row) ? 1 : 0,
                    () -> reference.met(relay, row) ? 1 : 0);
        }
    }

    private void runs() {
        if (upTo(1) == 0) {
            putShort();
        }
        pair.both("begin", () -> house.begin(), () -> reference.begin());
        int time = 0;
        for (int i = upTo(5); i >= 0; i--) {
            time += upTo(19) == 0 ? -5 : upTo(5) == 0 ? 0 : upTo(100);
            int t = time;
            pair.both("run " + t, () -> house.run(t), () -> reference.run(t));
            int k = upTo(5) - 1;
            int what = upTo(19) == 0 ? upTo(3) - 1 : upTo(1);
            pair.both("opened " + k + " " + what, () -> house.opened(k, what), () -> reference.opened(k, what));
            int sw = some(house.count(1));
            pair.both("ordered " + sw, () -> house.ordered(sw) ? 1 : 0, () -> reference.ordered(sw) ? 1 : 0);
        }
        if (upTo(2) == 0) {
            pair.both("run on", () -> house.run(Integer.MAX_VALUE), () -> reference.run(Integer.MAX_VALUE));
            for (int k = 0; k < 4; k++) {
                int j = k;
                pair.both("opened " + j, () -> house.opened(j, 0), () -> reference.opened(j, 0));
                pair.both("opened when " + j, () -> house.opened(j, 1), () -> reference.opened(j, 1));
            }
        }
    }

    private void dispatches() {
        pair.both("dispatch", () -> house.dispatch(), () -> reference.dispatch());
        pair.both("cost", () -> house.cost(), () -> reference.cost());
        compareHand();
        for (int i = 0; i < 2; i++) {
            int machine = some(house.count(3));
            pair.both("sets " + machine, () -> house.sets(machine), () -> reference.sets(machine));
            compareHand();
        }
        int bar = some(house.count(0));
        pair.both("price " + bar, () -> house.price(bar), () -> reference.price(bar));
        compareHand();
    }

    private void orders() {
        int what = upTo(9) == 0 ? upTo(3) - 1 : upTo(1);
        switch (upTo(3)) {
            case 0:
                pair.both("barred " + what, () -> house.barred(what), () -> reference.barred(what));
                break;
            case 1:
                pair.both("carry", () -> house.carry(), () -> reference.carry());
                break;
            default:
                int n = upTo(9) == 0 ? upTo(5) - 1 : 1 + upTo(2);
                pair.both("restore " + n, () -> house.restore(n), () -> reference.restore(n));
                int k = upTo(4) - 1;
                pair.both("step " + k, () -> house.step(k), () -> reference.step(k));
                break;
        }
    }
}
