/**
 * All that an object tells, as one text: objects that are alike tell alike. It is asked of several objects made in the
 * same way, for each is used up by what is asked of it, and has 512 calls.
 */
final class Told {
    interface Maker {
        GridHouse make();
    }

    private static final int[] WIDTH = {1, 5, 6, 11, 2};

    private final GridHouse x;
    private final StringBuilder text;

    private Told(GridHouse x, StringBuilder text) {
        this.x = x;
        this.text = text;
    }

    static String of(Maker maker) {
        StringBuilder text = new StringBuilder();
        Told t = new Told(maker.make(), text);
        t.hand();
        t.fields();
        t.names();
        t.marks();
        t.tape();
        t = new Told(maker.make(), text);
        t.run();
        t = new Told(maker.make(), text);
        t.counts();
        t.meters();
        t.orders();
        t = new Told(maker.make(), text);
        t.flows();
        t.shorts();
        t.dispatch();
        for (int k = 0; k < 3; k++) {
            t = new Told(maker.make(), text);
            t.kept(k);
        }
        return text.toString();
    }

    private void add(String what, Pair.Call call) {
        text.append(what).append(' ').append(Pair.told(Pair.guarded(call))).append('\n');
    }

    private void hand() {
        for (int part = 0; part < 2; part++) {
            int p = part;
            add("figures " + p, () -> x.figures(p));
            for (int i = 0; i <= 6; i++) {
                int k = i;
                add("figure " + p, () -> x.figure(p, k));
            }
        }
    }

    private void made(String what, Pair.Call call) {
        add(what, call);
        for (int part = 0; part < 2; part++) {
            int p = part;
            add("figures " + p, () -> x.figures(p));
            add("figure " + p, () -> x.figure(p, 0));
            add("figure " + p, () -> x.figure(p, 1));
        }
    }

    /** The run as it is, what it still does, and then all that a run begun now does. */
    private void run() {
        for (int turn = 0; turn < 2; turn++) {
            opened();
            add("run", () -> x.run(6));
            add("run", () -> x.run(Integer.MAX_VALUE));
            opened();
            add("begin", () -> x.begin());
        }
    }

    private void opened() {
        for (int k = 0; k < 4; k++) {
            int i = k;
            add("opened", () -> x.opened(i, 0));
            add("opened at", () -> x.opened(i, 1));
            add("ordered", () -> x.ordered(i) ? 1 : 0);
        }
    }

    private void counts() {
        for (int sort = 0; sort <= 15; sort++) {
            int s = sort;
            add("count " + s, () -> x.count(s));
        }
    }

    private void fields() {
        for (int sort = 0; sort < WIDTH.length; sort++) {
            for (int i = 0; i < x.count(sort); i++) {
                for (int k = 0; k < WIDTH[sort]; k++) {
                    int s = sort;
                    int o = i;
                    int f = k;
                    add("get " + s + " " + o, () -> x.get(s, o, f));
                }
            }
        }
    }

    private void names() {
        for (int sort = 0; sort < WIDTH.length; sort++) {
            for (int i = 0; i < x.count(sort); i++) {
                for (int k = 0; k < 2; k++) {
                    int s = sort;
                    int o = i;
                    int b = k;
                    add("name " + s + " " + o, () -> x.name(s, o, b));
                }
            }
        }
    }

    private void flows() {
        add("screen", () -> x.screen());
        add("trouble", () -> x.trouble(0, 0));
        for (int i = 0; i < x.count(0); i++) {
            int b = i;
            made("angle", () -> x.angle(b));
            add("bar", () -> x.bar(b, 1));
            add("bar", () -> x.bar(b, 4));
        }
        for (int i = 0; i < x.count(3); i++) {
            int m = i;
            made("gives", () -> x.gives(m));
        }
    }

    /** Of many meters the first ones and the last. */
    private void meters() {
        int count = x.count(5);
        for (int i = 0; i < count; i++) {
            if (i < 5 || i == count - 1) {
                int m = i;
                made("rest", () -> x.rest(m, 0));
                made("spread", () -> x.rest(m, 1));
                add("strike", () -> x.strike(m, false) ? 1 : 0);
            }
        }
        add("worst", () -> x.worst());
        for (int i = 0; i < x.count(0); i++) {
            int b = i;
            add("seen", () -> x.seen(b));
            made("estimate", () -> x.estimate(b));
        }
    }

    private void shorts() {
        for (int s = 0; s < 3; s++) {
            int k = s;
            made("into", () -> x.into(k));
        }
        for (int i = 0; i < x.count(6); i++) {
            for (int k = 0; k < 4; k++) {
                int r = i;
                int row = k;
                add("met", () -> x.met(r, row) ? 1 : 0);
            }
        }
    }

    private void dispatch() {
        made("cost", () -> x.cost());
        for (int i = 0; i < x.count(0); i++) {
            int b = i;
            made("price", () -> x.price(b));
        }
    }

    private void orders() {
        for (int k = 0; k < 3; k++) {
            int i = k;
            add("step", () -> x.step(i));
        }
        for (int n = 1; n <= 3; n++) {
            int i = n;
            add("restore", () -> x.restore(i));
        }
        add("barred", () -> x.barred(0));
        add("barred", () -> x.barred(1));
        add("carry", () -> x.carry());
        fields();
    }

    private void kept(int k) {
        add("back " + k, () -> {
            x.back(k);
            return 0;
        });
        fields();
    }

    /** What can be seen by calls that change it only. */
    private void marks() {
        add("clearShort", () -> x.clearShort() ? 1 : 0);
        add("backup", () -> x.backup(0));
        for (int i = 0; i < x.count(1); i++) {
            int s = i;
            add("fails", () -> x.fails(s, false) ? 1 : 0);
        }
    }

    private void tape() {
        add("bytes", () -> x.count(9));
        add("net", () -> x.net());
        counts();
    }
}
