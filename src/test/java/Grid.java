import java.util.ArrayDeque;
import java.util.ArrayList;
import java.util.Arrays;
import java.util.Deque;
import java.util.List;

/** A net, as plainly as can be, for the tests: its objects, nodes, islands, flows, shorts and dispatch. */
final class Grid {
    static final int[] WIDTH = {1, 5, 6, 11, 2};

    static final class Thing {
        final String name;
        int[] f;

        Thing(String name, int[] f) {
            this.name = name;
            this.f = f;
        }
    }

    final List<List<Thing>> things = new ArrayList<>();
    int shortKind = -1;
    int shortBar = -1;
    int shortLine = -1;
    int shortPart;
    int shortZ;

    Grid() {
        for (int i = 0; i < 5; i++) {
            things.add(new ArrayList<>());
        }
    }

    Grid copy() {
        Grid g = new Grid();
        for (int s = 0; s < 5; s++) {
            for (Thing t : things.get(s)) {
                g.things.get(s).add(new Thing(t.name, t.f.clone()));
            }
        }
        g.shortKind = shortKind;
        g.shortBar = shortBar;
        g.shortLine = shortLine;
        g.shortPart = shortPart;
        g.shortZ = shortZ;
        return g;
    }

    /** All fields of all objects. */
    String fields() {
        StringBuilder t = new StringBuilder();
        for (List<Thing> sort : things) {
            t.append(sort.size());
            for (Thing thing : sort) {
                t.append(Arrays.toString(thing.f));
            }
        }
        return t.toString();
    }

    List<Thing> bars() {
        return things.get(0);
    }

    List<Thing> switches() {
        return things.get(1);
    }

    List<Thing> lines() {
        return things.get(2);
    }

    List<Thing> machines() {
        return things.get(3);
    }

    List<Thing> loads() {
        return things.get(4);
    }

    // nodes and islands

    int[] nodes() {
        return label(false, false);
    }

    int[] islands() {
        return label(true, false);
    }

    int[] label(boolean lines, boolean unknownToo) {
        int n = bars().size();
        int[] label = new int[n];
        boolean[] done = new boolean[n];
        for (int b = 0; b < n; b++) {
            if (done[b]) {
                continue;
            }
            Deque<Integer> open = new ArrayDeque<>();
            open.add(b);
            done[b] = true;
            while (!open.isEmpty()) {
                int x = open.poll();
                label[x] = b;
                for (Thing s : switches()) {
                    if (s.f[0] == 1 || s.f[0] == 2 && unknownToo) {
                        step(x, s.f[3], s.f[4], open, done);
                    }
                }
                for (Thing l : lines()) {
                    if (lines && l.f[0] == 1) {
                        step(x, l.f[4], l.f[5], open, done);
                    }
                }
            }
        }
        return label;
    }

    private static void step(int x, int a, int b, Deque<Integer> open, boolean[] done) {
        if (x == a && !done[b]) {
            done[b] = true;
            open.add(b);
        }
        if (x == b && !done[a]) {
            done[a] = true;
            open.add(a);
        }
    }

    boolean isLive(int[] islands, int island) {
        for (Thing m : machines()) {
            if (m.f[0] == 1 && islands[m.f[10]] == island) {
                return true;
            }
        }
        return false;
    }

    int gap(int[] islands, int island) {
        int g = 0;
        for (Thing l : loads()) {
            g += islands[l.f[1]] == island ? l.f[0] : 0;
        }
        for (Thing m : machines()) {
            g -= m.f[0] == 1 && islands[m.f[10]] == island ? m.f[1] : 0;
        }
        return g;
    }

    int total(int[] islands, int island) {
        int t = 0;
        for (Thing m : machines()) {
            t += m.f[0] == 1 && islands[m.f[10]] == island ? m.f[9] : 0;
        }
        return t;
    }

    boolean isStuck(int[] islands, int island) {
        return isLive(islands, island) && total(islands, island) == 0 && gap(islands, island) != 0;
    }

    int stuckCount() {
        int[] islands = islands();
        int n = 0;
        for (int b = 0; b < islands.length; b++) {
            n += islands[b] == b && isStuck(islands, b) ? 1 : 0;
        }
        return n;
    }

    int lost() {
        int[] islands = islands();
        int sum = 0;
        for (Thing l : loads()) {
            sum += isLive(islands, islands[l.f[1]]) ? 0 : l.f[0];
        }
        return sum;
    }

    int loops() {
        int n = 0;
        for (Thing s : switches()) {
            n += s.f[0] == 1 ? 1 : 0;
        }
        for (Thing l : lines()) {
            n += l.f[0] == 1 ? 1 : 0;
        }
        int parts = 0;
        int[] islands = islands();
        for (int b = 0; b < islands.length; b++) {
            parts += islands[b] == b ? 1 : 0;
        }
        return n - (bars().size() - parts);
    }

    // flows

    Fraction gives(int machine) {
        int[] islands = islands();
        int[] f = machines().get(machine).f;
        int island = islands[f[10]];
        if (f[0] != 1 || isStuck(islands, island)) {
            return Fraction.ZERO;
        }
        int t = total(islands, island);
        return t == 0 ? Fraction.of(f[1]) : Fraction.of(f[1]).plus(Fraction.of((long) gap(islands, island) * f[9], t));
    }

    /** The angles of the nodes of an island by what flows in at bars; by bars. */
    Fraction[] angles(int island, Fraction[] in) {
        int[] nodes = nodes();
        int[] islands = islands();
        int n = nodes.length;
        Fraction[][] a = new Fraction[n][n];
        Fraction[] b = new Fraction[n];
        for (int i = 0; i < n; i++) {
            b[i] = Fraction.ZERO;
            for (int j = 0; j < n; j++) {
                a[i][j] = Fraction.ZERO;
            }
        }
        boolean[] free = new boolean[n];
        for (int i = 0; i < n; i++) {
            free[i] = nodes[i] == i && islands[i] == island && i != island;
            if (!free[i]) {
                a[i][i] = Fraction.ONE;
            }
        }
        for (Thing l : lines()) {
            if (l.f[0] == 1 && islands[l.f[4]] == island) {
                int u = nodes[l.f[4]];
                int v = nodes[l.f[5]];
                Fraction y = Fraction.of(1, l.f[1]);
                if (free[u]) {
                    a[u][u] = a[u][u].plus(y);
                    a[u][v] = a[u][v].minus(y);
                }
                if (free[v]) {
                    a[v][v] = a[v][v].plus(y);
                    a[v][u] = a[v][u].minus(y);
                }
            }
        }
        for (int i = 0; i < n; i++) {
            if (islands[i] == island && free[nodes[i]]) {
                b[nodes[i]] = b[nodes[i]].plus(in[i]);
            }
        }
        Fraction[] byNode = Linear.solve(a, b);
        Fraction[] byBar = new Fraction[n];
        for (int i = 0; i < n; i++) {
            byBar[i] = islands[i] == island ? byNode[nodes[i]] : Fraction.ZERO;
        }
        return byBar;
    }

    Fraction[] angles() {
        int[] islands = islands();
        int n = islands.length;
        Fraction[] in = new Fraction[n];
        for (int i = 0; i < n; i++) {
            in[i] = Fraction.ZERO;
        }
        for (int m = 0; m < machines().size(); m++) {
            int bar = machines().get(m).f[10];
            in[bar] = in[bar].plus(gives(m));
        }
        for (Thing l : loads()) {
            in[l.f[1]] = in[l.f[1]].minus(Fraction.of(l.f[0]));
        }
        Fraction[] all = new Fraction[n];
        for (int i = 0; i < n; i++) {
            all[i] = Fraction.ZERO;
        }
        for (int b = 0; b < n; b++) {
            if (islands[b] == b && isLive(islands, b) && !isStuck(islands, b)) {
                Fraction[] these = angles(b, in);
                for (int i = 0; i < n; i++) {
                    all[i] = all[i].plus(these[i]);
                }
            }
        }
        return all;
    }

    Fraction carries(int line) {
        return carries(line, angles());
    }

    Fraction carries(int line, Fraction[] angles) {
        int[] f = lines().get(line).f;
        return f[0] != 1 ? Fraction.ZERO : angles[f[4]].minus(angles[f[5]]).by(f[1]);
    }

    int overs() {
        Fraction[] angles = angles();
        int n = 0;
        for (int l = 0; l < lines().size(); l++) {
            n += carries(l, angles).abs().compareTo(Fraction.of(lines().get(l).f[3])) > 0 ? 1 : 0;
        }
        return n;
    }

    // shorts

    boolean isVoid() {
        int[] islands = islands();
        if (shortLine >= 0) {
            int[] f = lines().get(shortLine).f;
            return f[0] != 1 || !isLive(islands, islands[f[4]]);
        }
        return !isLive(islands, islands[shortBar]);
    }

    boolean hasEffect() {
        return shortKind >= 0 && !isVoid();
    }

    int shortIsland() {
        return islands()[shortLine >= 0 ? lines().get(shortLine).f[4] : shortBar];
    }

    /** Potentials by bars, behind them that of the place; null: nothing leads to earth. */
    Fraction[] potentials(boolean zero) {
        int[] nodes = nodes();
        int[] islands = islands();
        int island = shortIsland();
        int n = nodes.length;
        Fraction[][] a = new Fraction[n + 1][n + 1];
        Fraction[] b = new Fraction[n + 1];
        for (int i = 0; i <= n; i++) {
            b[i] = Fraction.ZERO;
            for (int j = 0; j <= n; j++) {
                a[i][j] = Fraction.ZERO;
            }
        }
        for (int l = 0; l < lines().size(); l++) {
            int[] f = lines().get(l).f;
            if (f[0] != 1 || islands[f[4]] != island) {
                continue;
            }
            Fraction x = Fraction.of(zero ? f[2] : f[1]);
            if (l == shortLine) {
                lay(a, nodes[f[4]], n, x.times(Fraction.of(shortPart, 16)));
                lay(a, nodes[f[5]], n, x.times(Fraction.of(16 - shortPart, 16)));
            } else if (nodes[f[4]] != nodes[f[5]]) {
                lay(a, nodes[f[4]], nodes[f[5]], x);
            }
        }
        boolean earthed = false;
        for (Thing m : machines()) {
            int x = zero ? m.f[3] : m.f[2];
            if (m.f[0] == 1 && islands[m.f[10]] == island && x > 0) {
                int u = nodes[m.f[10]];
                a[u][u] = a[u][u].plus(Fraction.of(1, x));
                earthed = true;
            }
        }
        if (!earthed) {
            return null;
        }
        int place = shortLine >= 0 ? n : nodes[shortBar];
        b[place] = Fraction.ONE;
        for (int i = 0; i <= n; i++) {
            boolean in = i == n ? shortLine >= 0 : nodes[i] == i && islands[i] == island;
            if (!in) {
                a[i][i] = Fraction.ONE;
            }
        }
        Fraction[] x = Linear.solve(a, b);
        Fraction[] byBar = new Fraction[n + 1];
        for (int i = 0; i < n; i++) {
            byBar[i] = islands[i] == island ? x[nodes[i]] : Fraction.ZERO;
        }
        byBar[n] = x[place];
        return byBar;
    }

    private static void lay(Fraction[][] a, int u, int v, Fraction x) {
        Fraction y = Fraction.ONE.by(x);
        a[u][u] = a[u][u].plus(y);
        a[v][v] = a[v][v].plus(y);
        a[u][v] = a[u][v].minus(y);
        a[v][u] = a[v][u].minus(y);
    }

    /** I0, I1, I2. */
    Fraction[] into() {
        Fraction[] i = {Fraction.ZERO, Fraction.ZERO, Fraction.ZERO};
        if (!hasEffect()) {
            return i;
        }
        int n = bars().size();
        Fraction e = Fraction.of(1000);
        Fraction p = potentials(false)[n];
        Fraction[] zero = potentials(true);
        Fraction q = zero == null ? null : zero[n];
        int kind = shortKind;
        Fraction z = Fraction.of(shortZ);
        if (kind == 3 && q == null) {
            kind = 2;
            z = Fraction.ZERO;
        }
        if (kind == 0) {
            i[1] = e.by(p.plus(z));
        } else if (kind == 1 && q != null) {
            i[1] = e.by(p.times(2).plus(q).plus(z.times(3)));
            i[2] = i[1];
            i[0] = i[1];
        } else if (kind == 2) {
            i[1] = e.by(p.times(2).plus(z));
            i[2] = i[1].negate();
        } else if (kind == 3) {
            Fraction h = q.plus(z.times(3));
            i[1] = e.by(p.plus(p.times(h).by(p.plus(h))));
            i[2] = i[1].times(h).by(p.plus(h)).negate();
            i[0] = i[1].times(p).by(p.plus(h)).negate();
        }
        return i;
    }

    /** V0, V1, V2 of a bar, or of the place behind the bars. */
    Fraction[] voltages(int bar) {
        int[] islands = islands();
        Fraction[] v = {Fraction.ZERO, Fraction.ZERO, Fraction.ZERO};
        boolean place = bar == bars().size();
        int island = place ? shortIsland() : islands[bar];
        if (!isLive(islands, island)) {
            return v;
        }
        v[1] = Fraction.of(1000);
        if (!hasEffect() || island != shortIsland()) {
            return v;
        }
        Fraction[] i = into();
        Fraction p1 = potentials(false)[bar];
        Fraction[] zero = potentials(true);
        v[1] = v[1].minus(p1.times(i[1]));
        v[2] = p1.times(i[2]).negate();
        v[0] = zero == null ? Fraction.ZERO : zero[bar].times(i[0]).negate();
        return v;
    }

    Fraction[] currents(int line, int end) {
        Fraction[] c = {Fraction.ZERO, Fraction.ZERO, Fraction.ZERO};
        int[] f = lines().get(line).f;
        if (f[0] != 1) {
            return c;
        }
        boolean on = shortKind >= 0 && shortLine == line;
        Fraction[] here = voltages(f[4 + end]);
        Fraction[] there = voltages(on ? bars().size() : f[5 - end]);
        int part = !on ? 16 : end == 0 ? shortPart : 16 - shortPart;
        for (int s = 0; s < 3; s++) {
            c[s] = here[s].minus(there[s]).by(Fraction.of((long) (s == 0 ? f[2] : f[1]) * part, 16));
        }
        return c;
    }

    static Fraction square(Fraction[] s, int phase) {
        if (phase == 0) {
            Fraction sum = s[0].plus(s[1]).plus(s[2]);
            return sum.times(sum);
        }
        Fraction x = s[0].minus(s[1].plus(s[2]).by(2));
        Fraction y = s[1].minus(s[2]);
        return x.times(x).plus(y.times(y).times(Fraction.of(3, 4)));
    }

    boolean isMet(int line, int end, int kind, int setting) {
        Fraction[] c = currents(line, end);
        Fraction a = square(c, 0);
        Fraction b = square(c, 1);
        Fraction limit = Fraction.of((long) setting * setting);
        if (kind == 0) {
            return a.compareTo(limit) > 0 || b.compareTo(limit) > 0;
        }
        int phase = b.compareTo(a) > 0 ? 1 : 0;
        Fraction u = phase == 0 ? a : b;
        Fraction v = square(voltages(lines().get(line).f[4 + end]), phase);
        return c[1].sign() > 0 && u.sign() > 0 && v.compareTo(limit.times(u)) <= 0;
    }

    // dispatch

    /** The least cost, then what each machine gives; null: there is none. With 1 MW more at a bar (-1: none). */
    Fraction[] dispatch(int more) {
        int[] islands = islands();
        int n = islands.length;
        List<Integer> on = new ArrayList<>();
        for (int m = 0; m < machines().size(); m++) {
            if (machines().get(m).f[0] == 1) {
                on.add(m);
            }
        }
        int k = on.size();
        // the variables: by machines, what is above LO, then how much of it is above M
        Linear.Program program = new Linear.Program(2 * k);
        Fraction fixed = Fraction.ZERO;
        Fraction[] cost = zeros(2 * k);
        for (int i = 0; i < k; i++) {
            int[] f = machines().get(on.get(i)).f;
            fixed = fixed.plus(Fraction.of((long) f[6] * f[4]));
            cost[i] = Fraction.of(f[6]);
            cost[k + i] = Fraction.of(f[8] - f[6]);
            Fraction[] row = zeros(2 * k);
            row[i] = Fraction.ONE;
            program.add(row, Fraction.of(f[5] - f[4]), false);
            row = zeros(2 * k);
            row[i] = Fraction.ONE;
            row[k + i] = Fraction.of(-1);
            program.add(row, Fraction.of(f[7] - f[4]), false);
        }
        for (int b = 0; b < n; b++) {
            if (islands[b] == b && isLive(islands, b)) {
                addIsland(program, islands, b, on, more);
            }
        }
        List<Fraction[]> objectives = new ArrayList<>();
        objectives.add(cost);
        for (int i = 0; i < k; i++) {
            Fraction[] o = zeros(2 * k);
            o[i] = Fraction.ONE;
            objectives.add(o);
        }
        Fraction[] least = program.least(objectives);
        if (least == null) {
            return null;
        }
        Fraction[] answer = zeros(1 + machines().size());
        answer[0] = least[0].plus(fixed);
        for (int i = 0; i < k; i++) {
            answer[1 + on.get(i)] = least[1 + i].plus(Fraction.of(machines().get(on.get(i)).f[4]));
        }
        return answer;
    }

    private void addIsland(Linear.Program program, int[] islands, int island, List<Integer> on, int more) {
        int k = on.size();
        int n = islands.length;
        Fraction[] balance = zeros(2 * k);
        Fraction[] in = zeros(n);
        Fraction need = Fraction.ZERO;
        for (Thing l : loads()) {
            if (islands[l.f[1]] == island) {
                need = need.plus(Fraction.of(l.f[0]));
                in[l.f[1]] = in[l.f[1]].minus(Fraction.of(l.f[0]));
            }
        }
        if (more >= 0 && islands[more] == island) {
            need = need.plus(Fraction.ONE);
            in[more] = in[more].minus(Fraction.ONE);
        }
        Fraction[][] shift = new Fraction[k][];
        for (int i = 0; i < k; i++) {
            int[] f = machines().get(on.get(i)).f;
            if (islands[f[10]] == island) {
                balance[i] = Fraction.ONE;
                need = need.minus(Fraction.of(f[4]));
                in[f[10]] = in[f[10]].plus(Fraction.of(f[4]));
                Fraction[] one = zeros(n);
                one[f[10]] = Fraction.ONE;
                shift[i] = angles(island, one);
            }
        }
        program.add(balance, need, true);
        Fraction[] start = angles(island, in);
        for (int l = 0; l < lines().size(); l++) {
            int[] f = lines().get(l).f;
            if (f[0] != 1 || islands[f[4]] != island) {
                continue;
            }
            Fraction[] up = zeros(2 * k);
            Fraction[] down = zeros(2 * k);
            for (int i = 0; i < k; i++) {
                if (shift[i] != null) {
                    up[i] = carries(l, shift[i]);
                    down[i] = up[i].negate();
                }
            }
            Fraction limit = Fraction.of(f[3]);
            program.add(up, limit.minus(carries(l, start)), false);
            program.add(down, limit.plus(carries(l, start)), false);
        }
    }

    private static Fraction[] zeros(int n) {
        Fraction[] z = new Fraction[n];
        for (int i = 0; i < n; i++) {
            z[i] = Fraction.ZERO;
        }
        return z;
    }
}
