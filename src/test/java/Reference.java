import java.util.ArrayList;
import java.util.Arrays;
import java.util.List;
import java.util.TreeMap;
import java.util.function.BiPredicate;

/** The whole document done again with plain means, to be compared with GridHouse. */
final class Reference {
    private static final List<String> KEYS = Arrays.asList(("bar switch line machine load open closed no if and or not "
            + "then close earth free tag untag it from to tagged live earthed joined lost over loops above below is")
            .split(" "));
    private static final int[] MOST = {16, 24, 20, 6, 12};
    private static final String[] SORTS = {"bar", "switch", "line", "machine", "load"};
    private static final String[] ACTS = {"open", "close", "earth", "free", "tag", "untag"};

    private static final class Fault extends Exception {
        private static final long serialVersionUID = 1L;
        final int place;

        Fault(int place) {
            this.place = place;
        }
    }

    private static final class Word {
        final int place;
        final String text;

        Word(int place, String text) {
            this.place = place;
            this.text = text;
        }

        int number() {
            return text.matches("[0-9]{1,6}") ? Integer.parseInt(text) : -1;
        }

        boolean isName() {
            return text.matches("[a-z][a-z0-9]{0,7}") && !KEYS.contains(text);
        }
    }

    private static final class Meter {
        int kind;
        int at;
        int v;
        int w;
        boolean struck;
    }

    private static final class Relay {
        int line;
        int end;
        int sw;
        int kind;
        List<int[]> rows = new ArrayList<>();
    }

    private static final class Rule {
        String act;
        Condition condition;
    }

    private interface Condition {
        boolean holds(Grid before, Grid behind, int it);
    }

    private StringBuilder tape = new StringBuilder();
    private Grid grid = new Grid();
    private String dispatchedFor = "";
    private Fraction[] dispatched;
    private final Grid[] kept = new Grid[3];
    private Fraction hand = Fraction.ZERO;
    private final List<Meter> meters = new ArrayList<>();
    private final List<Relay> relays = new ArrayList<>();
    private boolean[] failing = new boolean[24];
    private int back = 100000;
    private List<Rule> rules = new ArrayList<>();
    private List<String[]> order = new ArrayList<>();
    private List<Integer> restored = new ArrayList<>();
    private Run run;

    // words

    private List<Word> words;
    private int at;

    private void split() {
        words = new ArrayList<>();
        at = 0;
        String t = tape.toString();
        int i = 0;
        while (i < t.length()) {
            char c = t.charAt(i);
            if (c == 32 || c == 10) {
                i++;
                continue;
            }
            int j = i + 1;
            if (plain(c)) {
                while (j < t.length() && plain(t.charAt(j))) {
                    j++;
                }
            }
            words.add(new Word(i, t.substring(i, j)));
            i = j;
        }
    }

    private static boolean plain(char c) {
        return c >= 'a' && c <= 'z' || c >= '0' && c <= '9';
    }

    private Word word() throws Fault {
        if (at >= words.size()) {
            throw new Fault(tape.length());
        }
        return words.get(at++);
    }

    private String peek() {
        return at < words.size() ? words.get(at).text : "";
    }

    private void expect(String text) throws Fault {
        Word w = word();
        if (!w.text.equals(text)) {
            throw new Fault(w.place);
        }
    }

    private static int find(Grid g, int sort, String name) {
        for (int i = 0; i < g.things.get(sort).size(); i++) {
            if (g.things.get(sort).get(i).name.equals(name)) {
                return i;
            }
        }
        return -1;
    }

    private static int object(Grid g, int sort, Word w) throws Fault {
        int i = find(g, sort, w.text);
        if (i < 0) {
            throw new Fault(w.place);
        }
        return i;
    }

    private int number(int least, int most) throws Fault {
        Word w = word();
        if (w.number() < least || w.number() > most) {
            throw new Fault(w.place);
        }
        return w.number();
    }

    // texts

    int feed(int a, int b, int c, int d, int e) {
        if (tape.length() + 20 > 4000) {
            throw new IllegalStateException();
        }
        for (int v : new int[] {a, b, c, d, e}) {
            for (int s = 24; s >= 0; s -= 8) {
                tape.append((char) (v >> s & 255));
            }
        }
        return tape.length();
    }

    void end(int n) {
        if (n < 0 || n > tape.length()) {
            throw new IllegalArgumentException();
        }
        tape.setLength(n);
    }

    int net() {
        split();
        Grid g = new Grid();
        try {
            while (at < words.size()) {
                statement(g);
            }
        } catch (Fault f) {
            tape.setLength(0);
            return -1 - f.place;
        }
        tape.setLength(0);
        grid = g;
        Arrays.fill(kept, null);
        meters.clear();
        relays.clear();
        rules = new ArrayList<>();
        order = new ArrayList<>();
        restored = new ArrayList<>();
        failing = new boolean[24];
        back = 100000;
        run = null;
        return g.bars().size();
    }

    private void statement(Grid g) throws Fault {
        Word first = word();
        int sort = Arrays.asList(SORTS).indexOf(first.text);
        if (sort < 0 || g.things.get(sort).size() == MOST[sort]) {
            throw new Fault(first.place);
        }
        Word name = word();
        if (!name.isName()) {
            throw new Fault(name.place);
        }
        for (int s = 0; s < 5; s++) {
            if (find(g, s, name.text) >= 0) {
                throw new Fault(name.place);
            }
        }
        int[] f = new int[Grid.WIDTH[sort]];
        if (sort == 1) {
            f[3] = object(g, 0, word());
            f[4] = otherBar(g, f[3]);
            Word state = word();
            if (!state.text.equals("open") && !state.text.equals("closed")) {
                throw new Fault(state.place);
            }
            f[0] = state.text.equals("closed") ? 1 : 0;
            f[1] = number(1, 999999);
        } else if (sort == 2) {
            f[0] = 1;
            f[4] = object(g, 0, word());
            f[5] = otherBar(g, f[4]);
            f[1] = number(1, 99);
            f[2] = number(1, 299);
            f[3] = number(0, 9999);
        } else if (sort == 3) {
            f[0] = 1;
            f[10] = object(g, 0, word());
            f[2] = number(1, 99);
            f[3] = number(0, 299);
            f[4] = number(0, 9999);
            f[5] = number(f[4], 9999);
            f[6] = number(0, 999);
            f[7] = number(0, 9999);
            f[8] = number(f[6], 999);
            f[9] = number(0, 9);
            f[1] = f[4];
        } else if (sort == 4) {
            f[1] = object(g, 0, word());
            f[0] = number(0, 9999);
        }
        expect(";");
        g.things.get(sort).add(new Grid.Thing(name.text, f));
    }

    private int otherBar(Grid g, int a) throws Fault {
        Word w = word();
        int b = object(g, 0, w);
        if (b == a) {
            throw new Fault(w.place);
        }
        return b;
    }

    int rules() {
        split();
        List<Rule> read = new ArrayList<>();
        try {
            while (at < words.size()) {
                if (read.size() == 12) {
                    throw new Fault(words.get(at).place);
                }
                expect("no");
                Rule r = new Rule();
                Word act = word();
                if (!Arrays.asList(ACTS).contains(act.text)) {
                    throw new Fault(act.place);
                }
                r.act = act.text;
                expect("if");
                boolean ofBar = r.act.equals("earth") || r.act.equals("free");
                r.condition = any(ofBar, 0);
                expect(";");
                read.add(r);
            }
        } catch (Fault f) {
            tape.setLength(0);
            return -1 - f.place;
        }
        tape.setLength(0);
        rules = read;
        return rules.size();
    }

    private Condition any(boolean ofBar, int depth) throws Fault {
        Condition c = all(ofBar, depth);
        while (peek().equals("or")) {
            at++;
            Condition left = c;
            Condition right = all(ofBar, depth);
            c = (a, b, it) -> left.holds(a, b, it) | right.holds(a, b, it);
        }
        return c;
    }

    private Condition all(boolean ofBar, int depth) throws Fault {
        Condition c = one(ofBar, depth);
        while (peek().equals("and")) {
            at++;
            Condition left = c;
            Condition right = one(ofBar, depth);
            c = (a, b, it) -> left.holds(a, b, it) & right.holds(a, b, it);
        }
        return c;
    }

    private Condition one(boolean ofBar, int depth) throws Fault {
        if (peek().equals("not")) {
            at++;
            Condition c = positive(ofBar, depth);
            return (a, b, it) -> !c.holds(a, b, it);
        }
        return positive(ofBar, depth);
    }

    private Condition positive(boolean ofBar, int depth) throws Fault {
        if (peek().equals("(")) {
            Word bracket = word();
            if (depth == 8) {
                throw new Fault(bracket.place);
            }
            Condition c = any(ofBar, depth + 1);
            expect(")");
            return c;
        }
        if (peek().equals("then")) {
            at++;
            BiPredicate<Grid, Integer> p = predicate(ofBar);
            return (a, b, it) -> p.test(b, it);
        }
        BiPredicate<Grid, Integer> p = predicate(ofBar);
        return (a, b, it) -> p.test(a, it);
    }

    private BiPredicate<Grid, Integer> predicate(boolean ofBar) throws Fault {
        Word w = word();
        switch (w.text) {
            case "closed": {
                int s = named(ofBar, 1);
                return (g, it) -> g.switches().get(meant(g, s, it)).f[0] == 1;
            }
            case "tagged": {
                int s = named(ofBar, 1);
                return (g, it) -> g.switches().get(meant(g, s, it)).f[2] == 1;
            }
            case "live": {
                int s = named(ofBar, 0);
                return (g, it) -> g.isLive(g.islands(), g.islands()[meant(g, s, it)]);
            }
            case "earthed": {
                int s = named(ofBar, 0);
                return (g, it) -> g.bars().get(meant(g, s, it)).f[0] == 1;
            }
            case "joined": {
                int s = named(ofBar, 0);
                int t = named(ofBar, 0);
                return (g, it) -> g.nodes()[meant(g, s, it)] == g.nodes()[meant(g, t, it)];
            }
            case "lost":
            case "over":
            case "loops": {
                Word op = word();
                if (!Arrays.asList("above", "below", "is").contains(op.text)) {
                    throw new Fault(op.place);
                }
                int n = number(0, 999999);
                return (g, it) -> {
                    int v = w.text.equals("lost") ? g.lost() : w.text.equals("loops") ? g.loops()
                            : g.stuckCount() > 0 ? 100 : g.overs();
                    return op.text.equals("above") ? v > n : op.text.equals("below") ? v < n : v == n;
                };
            }
            default:
                throw new Fault(w.place);
        }
    }

    /** The object's number, or -1 it, -2 from, -3 to. */
    private int named(boolean ofBar, int sort) throws Fault {
        Word w = word();
        if (w.text.equals("it") && ofBar == (sort == 0)) {
            return -1;
        }
        if (w.text.equals("from") && !ofBar && sort == 0) {
            return -2;
        }
        if (w.text.equals("to") && !ofBar && sort == 0) {
            return -3;
        }
        return object(grid, sort, w);
    }

    private static int meant(Grid g, int s, int it) {
        return s >= 0 ? s : s == -1 ? it : g.switches().get(it).f[s == -2 ? 3 : 4];
    }

    int order() {
        split();
        List<String[]> read = new ArrayList<>();
        try {
            while (at < words.size()) {
                Word act = word();
                if (read.size() == 24 || !Arrays.asList(ACTS).contains(act.text)) {
                    throw new Fault(act.place);
                }
                boolean ofBar = act.text.equals("earth") || act.text.equals("free");
                int o = object(grid, ofBar ? 0 : 1, word());
                expect(";");
                read.add(new String[] {act.text, "" + o});
            }
        } catch (Fault f) {
            tape.setLength(0);
            return -1 - f.place;
        }
        tape.setLength(0);
        order = read;
        return order.size();
    }

    int find() {
        String t = tape.toString();
        tape.setLength(0);
        for (int s = 0; s < 5; s++) {
            if (find(grid, s, t) >= 0) {
                return 100 * s + find(grid, s, t);
            }
        }
        return -1;
    }

    int count(int sort) {
        int[] islands = grid.islands();
        int[] nodes = grid.nodes();
        int n = 0;
        switch (sort) {
            case 0: case 1: case 2: case 3: case 4:
                return grid.things.get(sort).size();
            case 5:
                return meters.size();
            case 6:
                return relays.size();
            case 7:
                return rules.size();
            case 8:
                return order.size();
            case 9:
                return tape.length();
            case 10:
                for (int b = 0; b < nodes.length; b++) {
                    n += nodes[b] == b ? 1 : 0;
                }
                return n;
            case 11:
                for (int b = 0; b < nodes.length; b++) {
                    n += islands[b] == b ? 1 : 0;
                }
                return n;
            case 12:
                for (int b = 0; b < nodes.length; b++) {
                    n += islands[b] == b && grid.isLive(islands, b) ? 1 : 0;
                }
                return n;
            case 13:
                return grid.stuckCount();
            case 14:
                return grid.overs();
            case 15:
                return grid.lost();
            default:
                throw new IllegalArgumentException();
        }
    }

    private boolean has(int sort, int i) {
        return sort >= 0 && sort < 5 && i >= 0 && i < grid.things.get(sort).size();
    }

    private void need(boolean is) {
        if (!is) {
            throw new IndexOutOfBoundsException();
        }
    }

    private void within(int v, int least, int most) {
        if (v < least || v > most) {
            throw new IllegalArgumentException();
        }
    }

    private void state(boolean is) {
        if (!is) {
            throw new IllegalStateException();
        }
    }

    int name(int sort, int i, int k) {
        if (!has(sort, i)) {
            return -1;
        }
        String n = grid.things.get(sort).get(i).name;
        return k < 0 || k >= n.length() ? -1 : n.charAt(k);
    }

    int get(int sort, int i, int field) {
        need(has(sort, i));
        within(field, 0, Grid.WIDTH[sort] - 1);
        return grid.things.get(sort).get(i).f[field];
    }

    int set(int sort, int i, int field, int v) {
        need(has(sort, i));
        int[] f = grid.things.get(sort).get(i).f;
        switch (sort * 100 + field) {
            case 100:
                within(v, 0, 2);
                break;
            case 101:
                within(v, 1, 999999);
                break;
            case 200: case 300:
                within(v, 0, 1);
                break;
            case 201: case 302:
                within(v, 1, 99);
                break;
            case 202:
                within(v, 1, 299);
                break;
            case 203: case 301: case 307: case 400:
                within(v, 0, 9999);
                break;
            case 303:
                within(v, 0, 299);
                break;
            case 304:
                within(v, 0, f[5]);
                break;
            case 305:
                within(v, f[4], 9999);
                break;
            case 306:
                within(v, 0, f[8]);
                break;
            case 308:
                within(v, f[6], 999);
                break;
            case 309:
                within(v, 0, 9);
                break;
            default:
                throw new IllegalArgumentException();
        }
        int was = f[field];
        f[field] = v;
        run = null;
        return was;
    }

    void keep(int k) {
        within(k, 0, 2);
        kept[k] = grid.copy();
    }

    void back(int k) {
        within(k, 0, 2);
        state(kept[k] != null);
        for (int s = 0; s < 5; s++) {
            for (int i = 0; i < grid.things.get(s).size(); i++) {
                grid.things.get(s).get(i).f = kept[k].things.get(s).get(i).f.clone();
            }
        }
        run = null;
    }

    // flows

    int bar(int bar, int what) {
        need(has(0, bar));
        within(what, 0, 4);
        int[] islands = grid.islands();
        int island = islands[bar];
        switch (what) {
            case 0:
                return grid.nodes()[bar];
            case 1:
                return island;
            case 2:
                return grid.isLive(islands, island) ? 1 : 0;
            case 3:
                return grid.isStuck(islands, island) ? 1 : 0;
            default:
                int[] wide = grid.label(true, true);
                return grid.isLive(islands, island) ? 1 : grid.isLive(wide, wide[bar]) ? 2 : 0;
        }
    }

    private int make(Fraction f) {
        hand = f;
        return f.sign();
    }

    Fraction inHand() {
        return hand;
    }

    int angle(int bar) {
        need(has(0, bar));
        return make(grid.angles()[bar]);
    }

    int carries(int line) {
        need(has(2, line));
        return make(grid.carries(line));
    }

    int gives(int machine) {
        need(has(3, machine));
        return make(grid.gives(machine));
    }

    int figures(int part) {
        within(part, 0, 1);
        return (part == 0 ? hand.above.abs() : hand.below).toString().length();
    }

    int figure(int part, int i) {
        within(part, 0, 1);
        String s = (part == 0 ? hand.above.abs() : hand.below).toString();
        return i < 0 || i >= s.length() ? -1 : s.charAt(s.length() - 1 - i) - '0';
    }

    private List<int[]> troubles() {
        List<int[]> all = new ArrayList<>();
        int[] islands = grid.islands();
        for (int l = 0; l < grid.lines().size(); l++) {
            int[] f = grid.lines().get(l).f;
            if (f[0] == 1 && grid.isLive(islands, islands[f[4]])) {
                Grid g = grid.copy();
                g.lines().get(l).f[0] = 0;
                int which = g.stuckCount() > grid.stuckCount() ? 1 : g.lost() > grid.lost() ? 2
                        : g.overs() > grid.overs() ? 3 : 0;
                if (which > 0) {
                    all.add(new int[] {l, which, g.lost() - grid.lost(), g.overs()});
                }
            }
        }
        return all;
    }

    int screen() {
        return troubles().size();
    }

    int trouble(int k, int what) {
        List<int[]> all = troubles();
        need(k >= 0 && k < all.size());
        within(what, 0, 3);
        return all.get(k)[what];
    }

    // estimates

    int meter(int kind, int at, int v, int w) {
        within(kind, 0, 2);
        need(has(kind == 0 ? 2 : 0, at));
        within(v, -99999, 99999);
        within(w, 1, 99);
        state(meters.size() < 32);
        Meter m = new Meter();
        m.kind = kind;
        m.at = at;
        m.v = v;
        m.w = w;
        meters.add(m);
        return meters.size() - 1;
    }

    boolean strike(int meter, boolean is) {
        need(meter >= 0 && meter < meters.size());
        boolean was = meters.get(meter).struck;
        meters.get(meter).struck = is;
        return was;
    }

    private int islandOf(Meter m) {
        return grid.islands()[m.kind == 0 ? grid.lines().get(m.at).f[4] : m.at];
    }

    /** By bars, what a meter shows of each node's angle; that of least nodes left out. */
    private Fraction[] shows(Meter m) {
        int[] nodes = grid.nodes();
        Fraction[] row = new Fraction[nodes.length];
        Arrays.fill(row, Fraction.ZERO);
        if (m.kind == 2) {
            row[nodes[m.at]] = Fraction.ONE;
        }
        for (int l = 0; l < grid.lines().size(); l++) {
            int[] f = grid.lines().get(l).f;
            Fraction y = Fraction.of(f[0], f[1]);
            int a = nodes[f[4]];
            int b = nodes[f[5]];
            int times = m.kind == 0 ? (m.at == l ? 1 : 0) : m.kind == 1
                    ? (a == nodes[m.at] ? 1 : 0) - (b == nodes[m.at] ? 1 : 0) : 0;
            row[a] = row[a].plus(y.times(times));
            row[b] = row[b].minus(y.times(times));
        }
        int[] islands = grid.islands();
        for (int b = 0; b < row.length; b++) {
            if (islands[b] == b) {
                row[b] = Fraction.ZERO;
            }
        }
        return row;
    }

    private boolean isSeen(int bar) {
        int[] nodes = grid.nodes();
        int[] islands = grid.islands();
        int node = nodes[bar];
        if (islands[node] == node) {
            return true;
        }
        List<Fraction[]> rows = new ArrayList<>();
        for (Meter m : meters) {
            if (!m.struck && islandOf(m) == islands[bar]) {
                rows.add(shows(m));
            }
        }
        int rank = Linear.rank(rows, nodes.length);
        Fraction[] unit = new Fraction[nodes.length];
        Arrays.fill(unit, Fraction.ZERO);
        unit[node] = Fraction.ONE;
        rows.add(unit);
        return Linear.rank(rows, nodes.length) == rank;
    }

    private boolean isWhole(int island) {
        int[] islands = grid.islands();
        for (int b = 0; b < islands.length; b++) {
            if (islands[b] == island && !isSeen(b)) {
                return false;
            }
        }
        return true;
    }

    /** The estimate of an island's angles by bars' nodes, the meters' values being these. */
    private Fraction[] estimate(int island, Fraction[] values) {
        int[] nodes = grid.nodes();
        int[] islands = grid.islands();
        int n = nodes.length;
        Fraction[][] a = new Fraction[n][n];
        Fraction[] b = new Fraction[n];
        for (int i = 0; i < n; i++) {
            Arrays.fill(a[i] = new Fraction[n], Fraction.ZERO);
            b[i] = Fraction.ZERO;
            if (islands[i] != island || nodes[i] != i || i == island) {
                a[i][i] = Fraction.ONE;
            }
        }
        for (int m = 0; m < meters.size(); m++) {
            Meter x = meters.get(m);
            if (x.struck || islandOf(x) != island) {
                continue;
            }
            Fraction[] row = shows(x);
            for (int i = 0; i < n; i++) {
                for (int j = 0; j < n; j++) {
                    a[i][j] = a[i][j].plus(row[i].times(row[j]).times(x.w));
                }
                b[i] = b[i].plus(row[i].times(values[m]).times(x.w));
            }
        }
        return Linear.solve(a, b);
    }

    private Fraction[] values() {
        Fraction[] v = new Fraction[meters.size()];
        for (int i = 0; i < v.length; i++) {
            v[i] = Fraction.of(meters.get(i).v);
        }
        return v;
    }

    private Fraction rest(int meter, Fraction[] values) {
        Fraction[] angles = estimate(islandOf(meters.get(meter)), values);
        Fraction[] row = shows(meters.get(meter));
        Fraction rest = values[meter];
        for (int i = 0; i < row.length; i++) {
            rest = rest.minus(row[i].times(angles[i]));
        }
        return rest;
    }

    private Fraction spread(int meter) {
        Fraction[] values = values();
        Arrays.fill(values, Fraction.ZERO);
        values[meter] = Fraction.ONE;
        return rest(meter, values).by(meters.get(meter).w);
    }

    int seen(int bar) {
        need(has(0, bar));
        return isWhole(grid.islands()[bar]) ? 2 : isSeen(bar) ? 1 : 0;
    }

    int estimate(int bar) {
        need(has(0, bar));
        int island = grid.islands()[bar];
        state(isWhole(island));
        return make(estimate(island, values())[grid.nodes()[bar]]);
    }

    int rest(int meter, int what) {
        need(meter >= 0 && meter < meters.size());
        within(what, 0, 1);
        Meter m = meters.get(meter);
        state(isWhole(islandOf(m)) && (what == 0 || !m.struck));
        return make(what == 0 ? rest(meter, values()) : spread(meter));
    }

    int worst() {
        int worst = -1;
        Fraction most = null;
        TreeMap<Integer, Boolean> whole = new TreeMap<>();
        for (int m = 0; m < meters.size(); m++) {
            int island = islandOf(meters.get(m));
            if (meters.get(m).struck || !whole.computeIfAbsent(island, this::isWhole)) {
                continue;
            }
            Fraction spread = spread(m);
            if (spread.sign() > 0) {
                Fraction rest = rest(m, values());
                Fraction t = rest.times(rest).by(spread);
                if (most == null || t.compareTo(most) > 0) {
                    most = t;
                    worst = m;
                }
            }
        }
        return worst;
    }

    // shorts

    void shortAt(int kind, int bar, int z) {
        need(has(0, bar));
        within(kind, 0, 3);
        within(z, 0, 99);
        grid.shortKind = kind;
        grid.shortBar = bar;
        grid.shortLine = -1;
        grid.shortZ = z;
        run = null;
    }

    void shortOn(int kind, int line, int k, int z) {
        need(has(2, line));
        within(kind, 0, 3);
        within(k, 1, 15);
        within(z, 0, 99);
        grid.shortKind = kind;
        grid.shortBar = -1;
        grid.shortLine = line;
        grid.shortPart = k;
        grid.shortZ = z;
        run = null;
    }

    boolean clearShort() {
        boolean was = grid.shortKind >= 0;
        grid.shortKind = -1;
        run = null;
        return was;
    }

    int into(int s) {
        within(s, 0, 2);
        return make(grid.into()[s]);
    }

    private int makeOf(Fraction[] three, int s) {
        return make(s < 3 ? three[s] : Grid.square(three, s - 3));
    }

    int voltage(int bar, int s) {
        need(has(0, bar));
        within(s, 0, 4);
        return makeOf(grid.voltages(bar), s);
    }

    int current(int line, int end, int s) {
        need(has(2, line));
        within(end, 0, 1);
        within(s, 0, 4);
        return makeOf(grid.currents(line, end), s);
    }

    // relays

    int relay(int line, int end, int sw, int kind) {
        need(has(2, line) && has(1, sw));
        within(end, 0, 1);
        within(kind, 0, 1);
        state(relays.size() < 16);
        Relay r = new Relay();
        r.line = line;
        r.end = end;
        r.sw = sw;
        r.kind = kind;
        relays.add(r);
        run = null;
        return relays.size() - 1;
    }

    int row(int relay, int setting, int delay) {
        need(relay >= 0 && relay < relays.size());
        within(setting, 0, 99999);
        within(delay, 0, 9999999);
        state(relays.get(relay).rows.size() < 4);
        relays.get(relay).rows.add(new int[] {setting, delay});
        run = null;
        return relays.get(relay).rows.size() - 1;
    }

    boolean fails(int sw, boolean is) {
        need(has(1, sw));
        boolean was = failing[sw];
        failing[sw] = is;
        run = null;
        return was;
    }

    int backup(int us) {
        within(us, 0, 9999999);
        int was = back;
        back = us;
        run = null;
        return was;
    }

    boolean met(int relay, int row) {
        need(relay >= 0 && relay < relays.size() && row >= 0 && row < relays.get(relay).rows.size());
        return isMet(grid, relays.get(relay), row);
    }

    private static boolean isMet(Grid g, Relay r, int row) {
        return g.isMet(r.line, r.end, r.kind, r.rows.get(row)[0]);
    }

    /** What is to come is kept by times; each thing is looked at again when its time is there. */
    private final class Run {
        final Grid g = grid.copy();
        int time = -1;
        final Long[][] since = new Long[16][4];
        final boolean[][] tripped = new boolean[16][4];
        final TreeMap<Integer, Long> opensAt = new TreeMap<>();
        final TreeMap<Integer, Long> backupAt = new TreeMap<>();
        final boolean[] ordered = new boolean[24];
        final List<int[]> opened = new ArrayList<>();

        int look(long t) {
            int n = 0;
            for (int r = 0; r < relays.size(); r++) {
                for (int i = 0; i < relays.get(r).rows.size(); i++) {
                    boolean met = isMet(g, relays.get(r), i);
                    n += met ? 1 : 0;
                    if (met && since[r][i] == null) {
                        since[r][i] = t;
                        tripped[r][i] = false;
                    } else if (!met) {
                        since[r][i] = null;
                    }
                }
            }
            return n;
        }

        boolean give(int s, long t) {
            if (g.switches().get(s).f[0] != 1 || ordered[s]) {
                return false;
            }
            ordered[s] = true;
            (failing[s] ? backupAt : opensAt).put(s, t + g.switches().get(s).f[1] + (failing[s] ? back : 0));
            return true;
        }

        Long next() {
            Long next = null;
            for (Long t : opensAt.values()) {
                next = next == null || t < next ? t : next;
            }
            for (Long t : backupAt.values()) {
                next = next == null || t < next ? t : next;
            }
            for (int r = 0; r < relays.size(); r++) {
                for (int i = 0; i < relays.get(r).rows.size(); i++) {
                    if (since[r][i] != null && !tripped[r][i]) {
                        long t = since[r][i] + relays.get(r).rows.get(i)[1];
                        next = next == null || t < next ? t : next;
                    }
                }
            }
            return next;
        }

        int act(long t) {
            int acts = 0;
            for (int s = 0; s < g.switches().size(); s++) {
                if (opensAt.containsKey(s) && opensAt.get(s) == t) {
                    opensAt.remove(s);
                    g.switches().get(s).f[0] = 0;
                    opened.add(new int[] {s, (int) t});
                    acts++;
                }
            }
            if (acts > 0) {
                look(t);
            }
            for (int s = 0; s < g.switches().size(); s++) {
                if (backupAt.containsKey(s) && backupAt.get(s) == t) {
                    backupAt.remove(s);
                    acts++;
                    int[] nodes = g.nodes();
                    int[] f = g.switches().get(s).f;
                    for (int o = 0; o < g.switches().size(); o++) {
                        int[] h = g.switches().get(o).f;
                        boolean near = false;
                        for (int e = 3; e <= 4; e++) {
                            near |= nodes[h[e]] == nodes[f[3]] || nodes[h[e]] == nodes[f[4]];
                        }
                        if (o != s && near) {
                            give(o, t);
                        }
                    }
                }
            }
            for (int r = 0; r < relays.size(); r++) {
                for (int i = 0; i < relays.get(r).rows.size(); i++) {
                    if (since[r][i] != null && !tripped[r][i] && since[r][i] + relays.get(r).rows.get(i)[1] == t) {
                        tripped[r][i] = true;
                        acts += give(relays.get(r).sw, t) ? 1 : 0;
                    }
                }
            }
            return acts;
        }
    }

    int begin() {
        state(grid.shortKind >= 0);
        run = new Run();
        run.time = 0;
        return run.look(0);
    }

    int run(int time) {
        state(run != null);
        within(time, run.time, Integer.MAX_VALUE);
        int acts = 0;
        while (run.next() != null && run.next() <= time) {
            acts += run.act(run.next());
        }
        run.time = time;
        return acts;
    }

    int opened(int k, int what) {
        return run == null || k < 0 || k >= run.opened.size() || what < 0 || what > 1 ? -1 : run.opened.get(k)[what];
    }

    boolean ordered(int sw) {
        return run != null && has(1, sw) && run.ordered[sw];
    }

    // dispatch

    /** The dispatch of the net as it is, looked for again only when a field is another one. */
    private Fraction[] dispatched() {
        String fields = grid.fields();
        if (!fields.equals(dispatchedFor)) {
            dispatchedFor = fields;
            dispatched = grid.dispatch(-1);
        }
        return dispatched;
    }

    int dispatch() {
        return dispatched() == null ? 0 : 1;
    }

    int cost() {
        Fraction[] d = dispatched();
        state(d != null);
        return make(d[0]);
    }

    int sets(int machine) {
        need(has(3, machine));
        Fraction[] d = dispatched();
        state(d != null);
        return make(d[1 + machine]);
    }

    int price(int bar) {
        need(has(0, bar));
        Fraction[] d = dispatched();
        state(d != null);
        int[] islands = grid.islands();
        state(grid.isLive(islands, islands[bar]));
        Fraction[] more = grid.dispatch(bar);
        state(more != null);
        return make(more[0].minus(d[0]));
    }

    // orders

    /** A net behind a step, or null if it changes nothing. */
    private static Grid behind(Grid g, String act, int object) {
        Grid b = g.copy();
        int[] f = b.things.get(act.equals("earth") || act.equals("free") ? 0 : 1).get(object).f;
        int field = act.endsWith("tag") ? 2 : 0;
        int v = act.equals("close") || act.equals("earth") || act.equals("tag") ? 1 : 0;
        if (f[field] == v) {
            return null;
        }
        f[field] = v;
        return b;
    }

    private int firstRule(Grid g, Grid b, String act, int object) {
        for (int r = 0; r < rules.size(); r++) {
            if (rules.get(r).act.equals(act) && rules.get(r).condition.holds(g, b, object)) {
                return r;
            }
        }
        return -1;
    }

    /** How many steps are done, the rule that bars the next one; the net behind them goes to reached. */
    private int[] follow(Grid[] reached) {
        Grid g = grid;
        for (int i = 0; i < order.size(); i++) {
            String act = order.get(i)[0];
            int object = Integer.parseInt(order.get(i)[1]);
            Grid b = behind(g, act, object);
            int rule = b == null ? -1 : firstRule(g, b, act, object);
            if (b == null || rule >= 0) {
                reached[0] = g;
                return new int[] {i, rule, i};
            }
            g = b;
        }
        reached[0] = g;
        return new int[] {-1, -1, order.size()};
    }

    int barred(int what) {
        within(what, 0, 1);
        return follow(new Grid[1])[what];
    }

    int carry() {
        Grid[] reached = new Grid[1];
        int done = follow(reached)[2];
        if (done > 0) {
            grid = reached[0].copy();
            run = null;
        }
        return done;
    }

    int restore(int n) {
        within(n, 1, 3);
        List<Integer> free = new ArrayList<>();
        for (int s = 0; s < grid.switches().size() && free.size() < 8; s++) {
            int[] f = grid.switches().get(s).f;
            if (f[0] == 0 && f[2] == 0) {
                free.add(s);
            }
        }
        List<List<Integer>> rows = new ArrayList<>();
        List<Integer> losts = new ArrayList<>();
        extend(grid, new ArrayList<>(), free, n, rows, losts);
        int best = 0;
        for (int i = 1; i < rows.size(); i++) {
            int order = losts.get(i) - losts.get(best);
            if (order == 0) {
                order = rows.get(i).size() - rows.get(best).size();
            }
            for (int k = 0; order == 0 && k < rows.get(i).size(); k++) {
                order = rows.get(i).get(k) - rows.get(best).get(k);
            }
            if (order < 0) {
                best = i;
            }
        }
        restored = rows.get(best);
        return restored.size();
    }

    private void extend(Grid g, List<Integer> row, List<Integer> free, int n, List<List<Integer>> rows,
            List<Integer> losts) {
        rows.add(row);
        losts.add(g.lost());
        for (int s : free) {
            if (row.size() == n || row.contains(s)) {
                continue;
            }
            Grid b = behind(g, "close", s);
            if (b == null || firstRule(g, b, "close", s) >= 0 || b.stuckCount() > 0 || b.overs() > 0) {
                continue;
            }
            List<Integer> longer = new ArrayList<>(row);
            longer.add(s);
            extend(b, longer, free, n, rows, losts);
        }
    }

    int step(int k) {
        return k < 0 || k >= restored.size() ? -1 : restored.get(k);
    }
}
