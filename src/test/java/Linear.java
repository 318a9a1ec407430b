import java.util.ArrayList;
import java.util.List;

/** Plain exact linear algebra and linear programs for the tests. */
final class Linear {
    private Linear() {
    }

    /** The one solution of a x = b, a square and regular. */
    static Fraction[] solve(Fraction[][] a, Fraction[] b) {
        int n = b.length;
        Fraction[][] m = new Fraction[n][n + 1];
        for (int i = 0; i < n; i++) {
            System.arraycopy(a[i], 0, m[i], 0, n);
            m[i][n] = b[i];
        }
        if (reduce(m, n) != n) {
            throw new IllegalStateException("singular");
        }
        Fraction[] x = new Fraction[n];
        for (int i = 0; i < n; i++) {
            x[i] = m[i][n];
        }
        return x;
    }

    /** Reduces rows by their first columns: the rank. */
    static int reduce(Fraction[][] m, int columns) {
        int rank = 0;
        for (int c = 0; c < columns && rank < m.length; c++) {
            int r = rank;
            while (r < m.length && m[r][c].isZero()) {
                r++;
            }
            if (r == m.length) {
                continue;
            }
            Fraction[] row = m[r];
            m[r] = m[rank];
            m[rank] = row;
            Fraction lead = row[c];
            for (int j = 0; j < row.length; j++) {
                row[j] = row[j].by(lead);
            }
            for (int i = 0; i < m.length; i++) {
                if (i != rank && !m[i][c].isZero()) {
                    Fraction f = m[i][c];
                    for (int j = 0; j < row.length; j++) {
                        m[i][j] = m[i][j].minus(f.times(row[j]));
                    }
                }
            }
            rank++;
        }
        return rank;
    }

    static int rank(List<Fraction[]> rows, int columns) {
        Fraction[][] m = new Fraction[rows.size()][];
        for (int i = 0; i < m.length; i++) {
            m[i] = rows.get(i).clone();
        }
        return reduce(m, columns);
    }

    /** A linear program: x not below 0, rows a x (<= or =) b; the objectives one behind the other. */
    static final class Program {
        final int variables;
        final List<Fraction[]> rows = new ArrayList<>();
        final List<Boolean> equal = new ArrayList<>();

        Program(int variables) {
            this.variables = variables;
        }

        void add(Fraction[] coefficients, Fraction bound, boolean isEqual) {
            Fraction[] row = new Fraction[variables + 1];
            System.arraycopy(coefficients, 0, row, 0, variables);
            row[variables] = bound;
            rows.add(row);
            equal.add(isEqual);
        }

        /** The least values of the objectives, each among the best of those before; null: there is no x. */
        Fraction[] least(List<Fraction[]> objectives) {
            Fraction[] answer = new Fraction[objectives.size()];
            int before = rows.size();
            for (int i = 0; i < answer.length; i++) {
                answer[i] = minimum(objectives.get(i));
                if (answer[i] == null) {
                    return null;
                }
                add(objectives.get(i), answer[i], true);
            }
            while (rows.size() > before) {
                rows.remove(rows.size() - 1);
                equal.remove(equal.size() - 1);
            }
            return answer;
        }

        /** Two phases by a tableau, Bland's rule; null: there is no x. The objective has a least value. */
        private Fraction minimum(Fraction[] objective) {
            int m = rows.size();
            int slacks = 0;
            for (boolean e : equal) {
                slacks += e ? 0 : 1;
            }
            int all = variables + slacks + m;
            Fraction[][] t = new Fraction[m][all + 1];
            int[] basis = new int[m];
            int slack = variables;
            for (int i = 0; i < m; i++) {
                for (int j = 0; j <= all; j++) {
                    t[i][j] = Fraction.ZERO;
                }
                System.arraycopy(rows.get(i), 0, t[i], 0, variables);
                t[i][all] = rows.get(i)[variables];
                if (!equal.get(i)) {
                    t[i][slack++] = Fraction.ONE;
                }
                if (t[i][all].sign() < 0) {
                    for (int j = 0; j <= all; j++) {
                        t[i][j] = t[i][j].negate();
                    }
                }
                basis[i] = variables + slacks + i;
                t[i][basis[i]] = Fraction.ONE;
            }
            Fraction[] first = new Fraction[all];
            Fraction[] second = new Fraction[all];
            for (int j = 0; j < all; j++) {
                first[j] = j >= variables + slacks ? Fraction.ONE : Fraction.ZERO;
                second[j] = j < variables ? objective[j] : Fraction.ZERO;
            }
            if (run(t, basis, first, all).sign() != 0) {
                return null;
            }
            for (int i = 0; i < m; i++) {
                for (int j = 0; j < variables + slacks && basis[i] >= variables + slacks; j++) {
                    if (!t[i][j].isZero()) {
                        pivot(t, basis, i, j);
                    }
                }
            }
            return run(t, basis, second, variables + slacks);
        }

        private static Fraction run(Fraction[][] t, int[] basis, Fraction[] cost, int columns) {
            int all = cost.length;
            while (true) {
                int enter = -1;
                for (int j = 0; j < columns && enter < 0; j++) {
                    Fraction reduced = cost[j];
                    for (int i = 0; i < t.length; i++) {
                        if (!t[i][j].isZero() && !cost[basis[i]].isZero()) {
                            reduced = reduced.minus(cost[basis[i]].times(t[i][j]));
                        }
                    }
                    if (reduced.sign() < 0) {
                        enter = j;
                    }
                }
                if (enter < 0) {
                    Fraction value = Fraction.ZERO;
                    for (int i = 0; i < t.length; i++) {
                        value = value.plus(cost[basis[i]].times(t[i][all]));
                    }
                    return value;
                }
                int leave = -1;
                Fraction best = null;
                for (int i = 0; i < t.length; i++) {
                    if (t[i][enter].sign() > 0) {
                        Fraction ratio = t[i][all].by(t[i][enter]);
                        int order = best == null ? -1 : ratio.compareTo(best);
                        if (order < 0 || order == 0 && basis[i] < basis[leave]) {
                            leave = i;
                            best = ratio;
                        }
                    }
                }
                if (leave < 0) {
                    throw new IllegalStateException("no least value");
                }
                pivot(t, basis, leave, enter);
            }
        }

        private static void pivot(Fraction[][] t, int[] basis, int r, int c) {
            Fraction lead = t[r][c];
            for (int j = 0; j < t[r].length; j++) {
                t[r][j] = t[r][j].by(lead);
            }
            for (int i = 0; i < t.length; i++) {
                if (i != r && !t[i][c].isZero()) {
                    Fraction f = t[i][c];
                    for (int j = 0; j < t[i].length; j++) {
                        if (!t[r][j].isZero()) {
                            t[i][j] = t[i][j].minus(f.times(t[r][j]));
                        }
                    }
                }
            }
            basis[r] = c;
        }
    }
}
