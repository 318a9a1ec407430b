import java.util.Random;

/** The same calls, by seeded rows of numbers, on GridHouse and on the Reference; all answers are to be alike. */
public final class CompareTest {
    private final Random random;
    private final Pair pair = new Pair();
    private final GridHouse house = pair.house;
    private final Reference reference = pair.reference;
    private final Texts texts;

    private CompareTest(long seed) {
        random = new Random(seed);
        texts = new Texts(random);
    }

    /** The first seed, how many, the size of the nets (0 to 2; mixed without it). */
    public static void main(String[] args) {
        long first = args.length > 0 ? Long.parseLong(args[0]) : 1;
        int runs = args.length > 1 ? Integer.parseInt(args[1]) : 400;
        int size = args.length > 2 ? Integer.parseInt(args[2]) : -1;
        int wrong = 0;
        for (int i = 0; i < runs && wrong < 3; i++) {
            CompareTest t = new CompareTest(first + i);
            if (!t.run(size >= 0 ? size : i % 20 == 19 ? 2 : i % 4 == 3 ? 1 : 0)) {
                wrong++;
                System.out.println("seed " + (first + i) + ":\n" + t.pair.log);
            }
        }
        System.out.println(wrong == 0 ? runs + " rows of calls are alike" : "rows of calls are not alike");
        if (wrong != 0) {
            System.exit(1);
        }
    }

    private int upTo(int n) {
        return random.nextInt(n + 1);
    }

    private boolean one(int of) {
        return random.nextInt(of) == 0;
    }

    /** Mostly an object's number, now and then none. */
    private int some(int count) {
        return one(25) ? upTo(40) - 2 : count == 0 ? 0 : random.nextInt(count);
    }

    /** Mostly within what is told, now and then beside it. */
    private int within(int least, int most) {
        return one(20) ? (one(2) ? least - 1 : most + 1) : least + upTo(most - least);
    }

    private boolean run(int size) {
        pair.net(texts.net(size));
        int calls = size == 2 ? 60 : 150;
        for (int i = 0; i < calls && pair.same && pair.hasRoom(1); i++) {
            call();
            if (one(3)) {
                pair.count(upTo(17) - 1);
                figures();
            }
        }
        return pair.same;
    }

    private void figures() {
        int part = within(0, 1);
        int i = upTo(30) - 2;
        pair.both("figure " + part + " " + i, () -> house.figure(part, i), () -> reference.figure(part, i));
        pair.both("figures " + part, () -> house.figures(part), () -> reference.figures(part));
    }

    private void call() {
        switch (upTo(11)) {
            case 0:
                texts();
                break;
            case 1:
            case 2:
            case 3:
                fields();
                break;
            case 4:
            case 5:
                flows();
                break;
            case 6:
                estimates();
                break;
            case 7:
                shorts();
                break;
            case 8:
                relays();
                break;
            case 9:
                runs();
                break;
            case 10:
                dispatches();
                break;
            default:
                orders();
                break;
        }
    }

    private void feed(String text) {
        pair.feed(text, !one(8));
    }

    private void texts() {
        int which = upTo(9);
        boolean spoil = one(3);
        if (which == 0 && one(4)) {
            String t = texts.net(upTo(1));
            feed(spoil ? texts.spoiled(t) : t);
            pair.both("net", () -> house.net(), () -> reference.net());
        } else if (which == 1) {
            feed(texts.pick("b0", "b1", "s0", "s11", "l0", "m0", "p0", "x", "", "b0 ", " b0", "bar", "abcdefghi"));
            pair.both("find", () -> house.find(), () -> reference.find());
        } else if (which < 6) {
            String t = texts.rules();
            feed(spoil ? texts.spoiled(t) : t);
            pair.both("rules", () -> house.rules(), () -> reference.rules());
        } else {
            String t = texts.order();
            feed(spoil ? texts.spoiled(t) : t);
            pair.both("order", () -> house.order(), () -> reference.order());
        }
    }

    private void fields() {
        int sort = one(25) ? upTo(8) - 1 : upTo(4);
        int i = some(sort >= 0 && sort < 5 ? reference.count(sort) : 0);
        int field = upTo(12) - 1;
        int k = within(0, 2);
        switch (upTo(8)) {
            case 0:
                pair.both("get " + sort + " " + i + " " + field, () -> house.get(sort, i, field),
                        () -> reference.get(sort, i, field));
                break;
            case 1:
                pair.both("name " + sort + " " + i + " " + field, () -> house.name(sort, i, field),
                        () -> reference.name(sort, i, field));
                break;
            case 2:
                pair.bothDo("keep " + k, () -> house.keep(k), () -> reference.keep(k));
                break;
            case 3:
                pair.bothDo("back " + k, () -> house.back(k), () -> reference.back(k));
                break;
            default:
                int s = one(4) ? sort : 1 + upTo(3);
                int j = some(reference.count(s < 0 || s > 4 ? 0 : s));
                int v = one(4) ? upTo(10500) - 100 : one(7) ? upTo(150) : upTo(2);
                pair.set(s, j, one(3) ? field : 0, v);
                break;
        }
    }

    private void flows() {
        int bar = some(reference.count(0));
        int what = upTo(6) - 1;
        switch (upTo(5)) {
            case 0:
                pair.both("bar " + bar + " " + what, () -> house.bar(bar, what), () -> reference.bar(bar, what));
                break;
            case 1:
                pair.angle(bar);
                break;
            case 2:
                pair.carries(some(reference.count(2)));
                break;
            case 3:
                pair.gives(some(reference.count(3)));
                break;
            case 4:
                pair.screen();
                break;
            default:
                pair.trouble(upTo(4) - 1, what);
                break;
        }
    }

    private void estimates() {
        for (int i = upTo(6); i >= 0; i--) {
            int kind = within(0, 2);
            int v = one(30) ? 99998 + upTo(3) : upTo(400) - 200;
            pair.meter(kind, some(reference.count(kind == 0 ? 2 : 0)), v, one(2) ? 1 + upTo(3) : within(1, 99));
        }
        for (int i = 0; i < 5; i++) {
            switch (upTo(4)) {
                case 0:
                    pair.strike(some(reference.count(5)), one(3));
                    break;
                case 1:
                    pair.seen(some(reference.count(0)));
                    break;
                case 2:
                    pair.estimate(some(reference.count(0)));
                    break;
                case 3:
                    pair.rest(some(reference.count(5)), within(0, 1));
                    break;
                default:
                    pair.worst();
                    break;
            }
        }
    }

    private void putShort() {
        int z = one(2) ? 0 : one(9) ? within(0, 99) : upTo(20);
        if (one(2)) {
            pair.shortAt(within(0, 3), some(reference.count(0)), z);
        } else {
            pair.shortOn(within(0, 3), some(reference.count(2)), within(1, 15), z);
        }
    }

    private void shorts() {
        if (one(10)) {
            pair.clearShort();
        } else {
            putShort();
        }
        for (int i = 0; i < 4; i++) {
            switch (upTo(2)) {
                case 0:
                    pair.into(within(0, 2));
                    break;
                case 1:
                    pair.voltage(some(reference.count(0)), within(0, 4));
                    break;
                default:
                    pair.current(some(reference.count(2)), within(0, 1), within(0, 4));
                    break;
            }
        }
    }

    private void relays() {
        if (one(3) || reference.count(6) == 0) {
            pair.relay(some(reference.count(2)), within(0, 1), some(reference.count(1)), within(0, 1));
        }
        for (int i = upTo(2); i >= 0; i--) {
            int setting = one(30) ? upTo(1) * 100000 : one(2) ? upTo(60) : upTo(800);
            int delay = one(30) ? -1 + 10000001 * upTo(1) : upTo(2) * upTo(80);
            pair.row(some(reference.count(6)), setting, delay);
        }
        if (one(4)) {
            pair.fails(some(reference.count(1)), !one(3));
            pair.backup(one(10) ? -1 + 10000001 * upTo(1) : upTo(100));
        }
        for (int i = 0; i < 3; i++) {
            pair.met(some(reference.count(6)), upTo(3));
        }
    }

    private void runs() {
        if (one(2)) {
            putShort();
        }
        pair.begin();
        int time = 0;
        for (int i = upTo(5); i >= 0; i--) {
            time += one(20) ? -5 : one(6) ? 0 : upTo(100);
            pair.run(time);
            pair.opened(upTo(5) - 1, within(0, 1));
            pair.ordered(some(reference.count(1)));
        }
        if (one(3)) {
            pair.run(Integer.MAX_VALUE);
            for (int k = 0; k < 4; k++) {
                pair.opened(k, 0);
                pair.opened(k, 1);
            }
        }
    }

    private void dispatches() {
        pair.dispatch();
        pair.cost();
        pair.sets(some(reference.count(3)));
        pair.sets(some(reference.count(3)));
        pair.price(some(reference.count(0)));
    }

    private void orders() {
        switch (upTo(3)) {
            case 0:
                pair.barred(within(0, 1));
                break;
            case 1:
                pair.carry();
                break;
            default:
                pair.restore(within(1, 3));
                pair.step(upTo(4) - 1);
                break;
        }
    }
}
