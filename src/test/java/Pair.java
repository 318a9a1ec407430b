/** GridHouse and the Reference side by side: each call is made on both, and the answers are to be alike. */
final class Pair {
    interface Call {
        long go();
    }

    interface Deed {
        void go();
    }

    static final int CALLS = 512;
    /** Of a long number so many figures at both ends are looked at, and every STEPth one. */
    private static final int ENDS = 4;
    private static final int STEP = 13;

    final GridHouse house = new GridHouse();
    final Reference reference = new Reference();
    final StringBuilder log = new StringBuilder();
    boolean same = true;
    /** How many calls the object was used for: what it answers behind its last one is free. */
    int calls;

    /** What a call answers; what it throws as a number far below all answers. */
    static long guarded(Call c) {
        try {
            return c.go();
        } catch (IndexOutOfBoundsException e) {
            return Long.MIN_VALUE + (e.getClass() == IndexOutOfBoundsException.class ? 1 : 9);
        } catch (IllegalArgumentException e) {
            return Long.MIN_VALUE + (e.getClass() == IllegalArgumentException.class ? 2 : 9);
        } catch (IllegalStateException e) {
            return Long.MIN_VALUE + 3;
        } catch (RuntimeException e) {
            return Long.MIN_VALUE + 8;
        }
    }

    static String told(long v) {
        return v >= Long.MIN_VALUE + 10 ? "" + v : "throws " + (v - Long.MIN_VALUE);
    }

    /** Whether there are so many calls left. */
    boolean hasRoom(int more) {
        return calls + more <= CALLS;
    }

    /** The answer of both; 0 without a call, if the object has had all its calls. */
    long both(String what, Call mine, Call theirs) {
        if (!hasRoom(1)) {
            return 0;
        }
        calls++;
        long a = guarded(mine);
        long b = guarded(theirs);
        log.append(what).append(" -> ").append(told(a)).append('\n');
        if (a != b) {
            same = false;
            log.append("   the reference: ").append(told(b)).append('\n');
        }
        return a;
    }

    long bothDo(String what, Deed mine, Deed theirs) {
        return both(what, () -> {
            mine.go();
            return 0;
        }, () -> {
            theirs.go();
            return 0;
        });
    }

    /** Compares the numbers in hand: how long they are, and their figures. */
    void hands() {
        Fraction f = reference.inHand();
        log.append("   in hand, by the reference, ").append(f).append('\n');
        hand(0, f.above.abs().toString());
        hand(1, f.below.toString());
    }

    private void hand(int part, String due) {
        int length = due.length();
        int turn = calls % STEP;
        both("figures " + part, () -> house.figures(part), () -> length);
        for (int i = 0; i < length; i++) {
            if (i < ENDS || i >= length - ENDS || i % STEP == turn) {
                int k = i;
                both("figure " + part + " " + i, () -> house.figure(part, k), () -> due.charAt(length - 1 - k) - '0');
            }
        }
    }

    void made(String what, Call mine, Call theirs) {
        both(what, mine, theirs);
        hands();
    }

    /** Feeds a text; with exactly, the spaces that fill its last twenty bytes are cut. */
    void feed(String text, boolean exactly) {
        log.append("text ").append(text.replace("\n", "\\n")).append('\n');
        int before = reference.count(9);
        int at = 0;
        while (at < text.length()) {
            int[] v = new int[5];
            for (int i = 0; i < 20; i++) {
                int b = at + i < text.length() ? text.charAt(at + i) & 255 : 32;
                v[i / 4] = v[i / 4] << 8 | b;
            }
            at += 20;
            both("feed", () -> house.feed(v[0], v[1], v[2], v[3], v[4]),
                    () -> reference.feed(v[0], v[1], v[2], v[3], v[4]));
        }
        int length = before + text.length();
        if (exactly) {
            bothDo("end", () -> house.end(length), () -> reference.end(length));
        }
    }

    long net(String text) {
        feed(text, true);
        return both("net", () -> house.net(), () -> reference.net());
    }

    long rules(String text) {
        feed(text, true);
        return both("rules", () -> house.rules(), () -> reference.rules());
    }

    long order(String text) {
        feed(text, true);
        return both("order", () -> house.order(), () -> reference.order());
    }

    long set(int sort, int i, int field, int v) {
        return both("set " + sort + " " + i + " " + field + " " + v, () -> house.set(sort, i, field, v),
                () -> reference.set(sort, i, field, v));
    }

    long count(int sort) {
        return both("count " + sort, () -> house.count(sort), () -> reference.count(sort));
    }

    void angle(int bar) {
        made("angle " + bar, () -> house.angle(bar), () -> reference.angle(bar));
    }

    void carries(int line) {
        made("carries " + line, () -> house.carries(line), () -> reference.carries(line));
    }

    void gives(int machine) {
        made("gives " + machine, () -> house.gives(machine), () -> reference.gives(machine));
    }

    long screen() {
        return both("screen", () -> house.screen(), () -> reference.screen());
    }

    long trouble(int k, int what) {
        return both("trouble " + k + " " + what, () -> house.trouble(k, what), () -> reference.trouble(k, what));
    }

    long meter(int kind, int at, int v, int w) {
        return both("meter " + kind + " " + at + " " + v + " " + w, () -> house.meter(kind, at, v, w),
                () -> reference.meter(kind, at, v, w));
    }

    void strike(int meter, boolean is) {
        both("strike " + meter + " " + is, () -> house.strike(meter, is) ? 1 : 0,
                () -> reference.strike(meter, is) ? 1 : 0);
    }

    long seen(int bar) {
        return both("seen " + bar, () -> house.seen(bar), () -> reference.seen(bar));
    }

    void estimate(int bar) {
        made("estimate " + bar, () -> house.estimate(bar), () -> reference.estimate(bar));
    }

    void rest(int meter, int what) {
        made("rest " + meter + " " + what, () -> house.rest(meter, what), () -> reference.rest(meter, what));
    }

    long worst() {
        return both("worst", () -> house.worst(), () -> reference.worst());
    }

    void shortAt(int kind, int bar, int z) {
        bothDo("shortAt " + kind + " " + bar + " " + z, () -> house.shortAt(kind, bar, z),
                () -> reference.shortAt(kind, bar, z));
    }

    void shortOn(int kind, int line, int k, int z) {
        bothDo("shortOn " + kind + " " + line + " " + k + " " + z, () -> house.shortOn(kind, line, k, z),
                () -> reference.shortOn(kind, line, k, z));
    }

    void clearShort() {
        both("clearShort", () -> house.clearShort() ? 1 : 0, () -> reference.clearShort() ? 1 : 0);
    }

    void into(int s) {
        made("into " + s, () -> house.into(s), () -> reference.into(s));
    }

    void voltage(int bar, int s) {
        made("voltage " + bar + " " + s, () -> house.voltage(bar, s), () -> reference.voltage(bar, s));
    }

    void current(int line, int end, int s) {
        made("current " + line + " " + end + " " + s, () -> house.current(line, end, s),
                () -> reference.current(line, end, s));
    }

    long relay(int line, int end, int sw, int kind) {
        return both("relay " + line + " " + end + " " + sw + " " + kind, () -> house.relay(line, end, sw, kind),
                () -> reference.relay(line, end, sw, kind));
    }

    long row(int relay, int setting, int delay) {
        return both("row " + relay + " " + setting + " " + delay, () -> house.row(relay, setting, delay),
                () -> reference.row(relay, setting, delay));
    }

    void fails(int sw, boolean is) {
        both("fails " + sw + " " + is, () -> house.fails(sw, is) ? 1 : 0, () -> reference.fails(sw, is) ? 1 : 0);
    }

    void backup(int us) {
        both("backup " + us, () -> house.backup(us), () -> reference.backup(us));
    }

    long met(int relay, int row) {
        return both("met " + relay + " " + row, () -> house.met(relay, row) ? 1 : 0,
                () -> reference.met(relay, row) ? 1 : 0);
    }

    long begin() {
        return both("begin", () -> house.begin(), () -> reference.begin());
    }

    long run(int time) {
        return both("run " + time, () -> house.run(time), () -> reference.run(time));
    }

    long opened(int k, int what) {
        return both("opened " + k + " " + what, () -> house.opened(k, what), () -> reference.opened(k, what));
    }

    long ordered(int sw) {
        return both("ordered " + sw, () -> house.ordered(sw) ? 1 : 0, () -> reference.ordered(sw) ? 1 : 0);
    }

    long dispatch() {
        return both("dispatch", () -> house.dispatch(), () -> reference.dispatch());
    }

    void cost() {
        made("cost", () -> house.cost(), () -> reference.cost());
    }

    void sets(int machine) {
        made("sets " + machine, () -> house.sets(machine), () -> reference.sets(machine));
    }

    void price(int bar) {
        made("price " + bar, () -> house.price(bar), () -> reference.price(bar));
    }

    long barred(int what) {
        return both("barred " + what, () -> house.barred(what), () -> reference.barred(what));
    }

    long carry() {
        return both("carry", () -> house.carry(), () -> reference.carry());
    }

    long restore(int n) {
        return both("restore " + n, () -> house.restore(n), () -> reference.restore(n));
    }

    long step(int k) {
        return both("step " + k, () -> house.step(k), () -> reference.step(k));
    }
}
