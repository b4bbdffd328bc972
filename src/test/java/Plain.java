import java.math.BigInteger;
import java.util.ArrayList;
import java.util.Comparator;
import java.util.HashMap;
import java.util.IdentityHashMap;
import java.util.List;
import java.util.Map;

/**
 * The document once more as a second program, in the plainest way (CELLS as objects, rows of their sorts, refusals and
 * FAULTS thrown), for RunsTest to compare with. It shares nothing with the program or with OracleTest.
 */
public final class Plain {
    private static final class Cell {
        final int degree;
        final int[] level;
        Map<Cell, Integer> edge = new IdentityHashMap<>();

        Cell(int degree, int... level) {
            this.degree = degree;
            this.level = level;
        }

        int entry(Cell y) {
            return edge.getOrDefault(y, 0);
        }

        boolean mayHave(Cell y) {
            return y.degree + 1 == degree && y.level[0] <= level[0] && y.level[1] <= level[1];
        }
    }

    private static final class Answer extends RuntimeException {
        private static final long serialVersionUID = 1;
        final int answer;

        Answer(int answer) {
            super(null, null, false, false);
            this.answer = answer;
        }
    }

    private final List<List<Cell>> complexes = new ArrayList<>();
    private List<List<Cell>> kept = null;
    private final StringBuilder tape = new StringBuilder();
    private final Object[] sheets = new Object[4];
    private final int[] trials = new int[3];

    public Plain() {
        for (int i = 0; i < 4; i++) {
            complexes.add(new ArrayList<>());
        }
    }

    private static void refuse(int answer, boolean so) {
        if (so) {
            throw new Answer(answer);
        }
    }

    private static void bad(boolean so) {
        refuse(-1, so);
    }

    private static int between(int least, int v, int most) {
        bad(v < least || v > most);
        return v;
    }

    private static int prime(int p) {
        bad(p != 2 && p != 3 && p != 5 && p != 7);
        return p;
    }

    private List<Cell> complex(int i) {
        return complexes.get(between(0, i, 3));
    }

    private static Cell cellOf(List<Cell> c, int x) {
        return c.get(between(0, x, c.size() - 1));
    }

    /** Refusals are thrown, so that each call reads as the document tells it. */
    private interface Call {
        int answer();
    }

    private static int ask(Call call) {
        try {
            return call.answer();
        } catch (Answer refused) {
            return refused.answer;
        }
    }

    public int clear(int complex) {
        return ask(() -> {
            int had = complex(complex).size();
            complex(complex).clear();
            return had;
        });
    }

    public int cell(int complex, int degree, int level, int other) {
        return ask(() -> {
            List<Cell> c = complex(complex);
            Cell more = new Cell(between(0, degree, 4), between(0, level, 9), between(0, other, 9));
            refuse(-2, c.size() == 12);
            c.add(more);
            return c.indexOf(more);
        });
    }

    /** Not a call of the document: for RunsTest to find what it asks. */
    boolean mayHave(int complex, int x, int y) {
        return complexes.get(complex).get(x).mayHave(complexes.get(complex).get(y));
    }

    public int entry(int complex, int x, int y, int v) {
        return ask(() -> {
            Cell of = cellOf(complex(complex), x);
            Cell at = cellOf(complex(complex), y);
            bad(!of.mayHave(at));
            between(-9, v, 9);
            int was = of.entry(at);
            of.edge.put(at, v);
            return 10 + was;
        });
    }

    public int entryOf(int complex, int x, int y) {
        return ask(() -> 10 + cellOf(complex(complex), x).entry(cellOf(complex(complex), y)));
    }

    public int of(int complex, int cell, int what) {
        return ask(() -> {
            List<Cell> c = complex(complex);
            Cell x = cellOf(c, cell);
            List<Integer> told = List.of(x.degree, x.level[0], x.level[1],
                (int) c.stream().filter(y -> x.entry(y) != 0).count(), (int) c.stream().filter(y -> y.entry(x) != 0).count());
            return told.get(between(0, what, 4));
        });
    }

    private static int brokenAt(List<Cell> c) {
        for (Cell x : c) {
            for (Cell y : c) {
                if (c.stream().mapToInt(z -> x.entry(z) * z.entry(y)).sum() != 0) {
                    return 1 + 16 * c.indexOf(x) + c.indexOf(y);
                }
            }
        }
        return 0;
    }

    public int broken(int complex) {
        return ask(() -> brokenAt(complex(complex)));
    }

    /** What is asked while an ENTRY is another one; all is as it was then. */
    private int tried(Cell x, Cell y, int v, Call asked) {
        Map<Cell, Integer> was = new IdentityHashMap<>(x.edge);
        trials[0]++;
        trials[2] = Math.max(trials[2], trials[0] - trials[1]);
        x.edge.put(y, v);
        int answer = ask(asked);
        x.edge = was;
        trials[1]++;
        return answer;
    }

    private void noTrials() {
        trials[0] = 0;
        trials[1] = 0;
        trials[2] = 0;
    }

    public int mend(int complex) {
        return ask(() -> {
            List<Cell> c = complex(complex);
            noTrials();
            refuse(-3, brokenAt(c) == 0);
            for (Cell x : c) {
                for (Cell y : c) {
                    for (int v = -9; v <= 9 && x.mayHave(y); v++) {
                        if (tried(x, y, v, () -> brokenAt(c)) == 0) {
                            return 400 * c.indexOf(x) + 20 * c.indexOf(y) + 9 + v;
                        }
                    }
                }
            }
            return -3;
        });
    }

    public int feed(long eight, int n) {
        return ask(() -> {
            between(1, n, 8);
            refuse(-2, tape.length() + n > 200);
            long rest = eight;
            for (int i = 0; i < n; i++) {
                tape.append((char) (rest & 255));
                rest >>>= 8;
            }
            return tape.length();
        });
    }

    public int text(int complex) {
        return ask(() -> {
            complex(complex);
            String text = tape.toString();
            tape.setLength(0);
            List<Cell> told = new PlainText(text).cells();
            complexes.set(complex, told);
            return told.size();
        });
    }

    /** Takes the signs of a TEXT one by one; a FAULT is thrown. */
    private static final class PlainText {
        final String text;
        int at = 0;

        PlainText(String text) {
            this.text = text;
        }

        /** The sign that stands there behind blanks, or 0 at the end. */
        char sign() {
            while (at < text.length() && text.charAt(at) == ' ') {
                at++;
            }
            return at < text.length() ? text.charAt(at) == 0 ? 1 : text.charAt(at) : 0;
        }

        boolean takes(char sign) {
            boolean there = sign() == sign;
            at += there ? 1 : 0;
            return there;
        }

        boolean digit() {
            return at < text.length() && "0123456789".indexOf(text.charAt(at)) >= 0;
        }

        static void fault(int place, boolean so) {
            refuse(-100 - place, so);
        }

        /** An N; where it stands is kept by who asks. */
        int number(int most) {
            sign();
            int from = at;
            while (digit()) {
                at++;
            }
            fault(at, at == from);
            fault(from, at > from + 2 || Integer.parseInt(text.substring(from, at)) > most);
            return Integer.parseInt(text.substring(from, at));
        }

        List<Cell> cells() {
            List<Cell> told = new ArrayList<>();
            while (sign() != 0) {
                fault(at, told.size() == 12);
                int degree = number(4);
                int[] level = {0, 0};
                if (takes('@')) {
                    level[0] = number(9);
                    sign();
                    level[1] = digit() ? number(9) : level[0];
                }
                Cell x = new Cell(degree, level);
                if (takes(':')) {
                    do {
                        entry(x, told);
                    } while (takes(','));
                }
                fault(at, !takes(';'));
                told.add(x);
            }
            return told;
        }

        void entry(Cell x, List<Cell> ahead) {
            boolean minus = takes('-');
            sign();
            int from = at;
            int often = 1;
            int which = number(99);
            boolean mayBeHowOften = which <= 9;
            if (takes('*')) {
                fault(from, !mayBeHowOften);
                often = which;
                sign();
                from = at;
                which = number(99);
            } else {
                fault(text.length(), mayBeHowOften && sign() == 0);
            }
            fault(from, which >= ahead.size() || !x.mayHave(ahead.get(which)) || x.edge.containsKey(ahead.get(which)));
            x.edge.put(ahead.get(which), minus ? -often : often);
        }
    }

    /** The CELLS of a COMPLEX in the order of a WAY, and what each is REDUCED to. */
    private static final class Turned {
        final List<Cell> order;
        final Map<Cell, Map<Cell, Integer>> to = new IdentityHashMap<>();

        Turned(List<Cell> c, int way, int p) {
            order = new ArrayList<>(c);
            order.sort(Comparator.<Cell>comparingInt(x -> x.level[way]).thenComparingInt(x -> x.degree));
            for (Cell x : order) {
                Map<Cell, Integer> r = new IdentityHashMap<>();
                x.edge.forEach((y, v) -> r.put(y, ((v % p) + p) % p));
                for (Cell o = owner(last(r)); o != null; o = owner(last(r))) {
                    to.get(o).forEach((y, v) -> r.put(y, (r.getOrDefault(y, 0) + p - v) % p));
                }
                to.put(x, r);
            }
        }

        Cell last(Map<Cell, Integer> r) {
            Cell last = null;
            for (Cell y : order) {
                last = r != null && r.getOrDefault(y, 0) != 0 ? y : last;
            }
            return last;
        }

        Cell owner(Cell last) {
            for (Cell x : order) {
                if (last != null && last(to.get(x)) == last) {
                    return x;
                }
            }
            return null;
        }

        Cell partner(Cell x) {
            return last(to.get(x)) != null ? last(to.get(x)) : owner(x);
        }
    }

    private List<Cell> sound(List<Cell> c) {
        refuse(-4, brokenAt(c) != 0);
        return c;
    }

    public int goes(int complex, int way, int p, int cell) {
        return ask(() -> {
            Cell x = cellOf(complex(complex), cell);
            between(0, way, 1);
            prime(p);
            Cell partner = new Turned(sound(complex(complex)), way, p).partner(x);
            refuse(-3, partner == null);
            return complex(complex).indexOf(partner);
        });
    }

    public int reduced(int complex, int way, int p, int x, int y) {
        return ask(() -> {
            Cell of = cellOf(complex(complex), x);
            Cell at = cellOf(complex(complex), y);
            between(0, way, 1);
            prime(p);
            return new Turned(sound(complex(complex)), way, p).to.get(of).getOrDefault(at, 0);
        });
    }

    private interface Counted {
        boolean counts(Cell partner, int gap, boolean toSomething);
    }

    private int onPage(int complex, int way, int p, int r, int level, int degree, Counted counted) {
        return ask(() -> {
            List<Cell> c = complex(complex);
            between(0, way, 1);
            prime(p);
            between(0, r, 10);
            between(0, level, 9);
            between(0, degree, 4);
            Turned t = new Turned(sound(c), way, p);
            int many = 0;
            for (Cell x : c) {
                Cell partner = t.partner(x);
                int gap = partner == null ? 0 : Math.abs(x.level[way] - partner.level[way]);
                boolean there = x.level[way] == level && x.degree == degree;
                many += there && counted.counts(partner, gap, t.last(t.to.get(x)) != null) ? 1 : 0;
            }
            return many;
        });
    }

    public int page(int complex, int way, int p, int r, int level, int degree) {
        return onPage(complex, way, p, r, level, degree, (partner, gap, to) -> partner == null || gap >= r);
    }

    public int turns(int complex, int way, int p, int r, int level, int degree) {
        return onPage(complex, way, p, r, level, degree, (partner, gap, to) -> partner != null && gap == r && to);
    }

    public int stands(int complex, int way, int p) {
        return ask(() -> {
            complex(complex);
            between(0, way, 1);
            prime(p);
            sound(complex(complex));
            int least = 10;
            while (least > 0 && pages(complex, way, p, least - 1).equals(pages(complex, way, p, 10))) {
                least--;
            }
            return least;
        });
    }

    private List<Integer> pages(int complex, int way, int p, int r) {
        List<Integer> all = new ArrayList<>();
        for (Cell x : complex(complex)) {
            all.add(page(complex, way, p, r, x.level[way], x.degree));
        }
        return all;
    }

    /** CELLS less the ranks of the EDGES of the DEGREE and of the one above: as many as STAY. */
    private static int staying(List<Cell> c, int p, int degree) {
        int cells = (int) c.stream().filter(x -> x.degree == degree).count();
        return cells - rank(c, p, degree) - rank(c, p, degree + 1);
    }

    private static int rank(List<Cell> c, int p, int degree) {
        List<int[]> rows = new ArrayList<>();
        for (Cell x : c) {
            if (x.degree == degree) {
                rows.add(c.stream().mapToInt(y -> Math.floorMod(x.entry(y), p)).toArray());
            }
        }
        int rank = 0;
        for (int column = 0; column < c.size(); column++) {
            int at = column;
            int[] pivot = rows.stream().filter(row -> row[at] != 0).findFirst().orElse(null);
            if (pivot != null) {
                rows.remove(pivot);
                rank++;
                for (int[] row : rows) {
                    while (row[at] != 0) {
                        for (int i = 0; i < row.length; i++) {
                            row[i] = (row[i] + pivot[i]) % p;
                        }
                    }
                }
            }
        }
        return rank;
    }

    public int left(int complex, int p, int degree) {
        return ask(() -> {
            List<Cell> c = complex(complex);
            prime(p);
            between(0, degree, 4);
            return staying(sound(c), p, degree);
        });
    }

    public int whole(int complex, int degree, int i) {
        return ask(() -> inWholeNumbers(complex(complex), complex(complex), between(0, degree, 4), i));
    }

    public int wholeAt(int complex, int way, int level, int degree, int i) {
        return ask(() -> {
            List<Cell> at = new ArrayList<>(complex(complex));
            between(0, way, 1);
            between(0, level, 9);
            at.removeIf(x -> x.level[way] != level);
            return inWholeNumbers(complex(complex), at, between(0, degree, 4), i);
        });
    }

    private int inWholeNumbers(List<Cell> all, List<Cell> chosen, int degree, int i) {
        bad(i < 0);
        sound(all);
        List<BigInteger> above = straight(chosen, degree + 1);
        if (i == 0) {
            int cells = (int) chosen.stream().filter(x -> x.degree == degree).count();
            return cells - above.size() - straight(chosen, degree).size();
        }
        above.removeIf(v -> v.equals(BigInteger.ONE));
        refuse(-3, i > above.size());
        return above.get(i - 1).intValueExact();
    }

    /** The numbers on the slope, each a factor of the next, of the EDGES of a DEGREE turned by rows and columns. */
    private static List<BigInteger> straight(List<Cell> c, int degree) {
        Map<Integer, BigInteger[]> rows = new HashMap<>();
        for (Cell x : c) {
            if (x.degree == degree) {
                rows.put(rows.size(), c.stream().map(y -> BigInteger.valueOf(x.entry(y))).toArray(BigInteger[]::new));
            }
        }
        BigInteger[][] m = rows.values().toArray(BigInteger[][]::new);
        List<BigInteger> slope = new ArrayList<>();
        while (slope.size() < Math.min(m.length, c.size()) && clears(m, slope.size(), c.size())) {
            slope.add(m[slope.size()][slope.size()].abs());
        }
        for (int i = 0; i < slope.size(); i++) {
            for (int k = i + 1; k < slope.size(); k++) {
                BigInteger a = slope.get(i);
                BigInteger b = slope.get(k);
                slope.set(i, a.gcd(b));
                slope.set(k, a.multiply(b).divide(a.gcd(b)));
            }
        }
        return slope;
    }

    /** Makes all of row and column t nothing but the place t, t; false if nothing is left. */
    private static boolean clears(BigInteger[][] m, int t, int width) {
        while (true) {
            int row = -1;
            int column = -1;
            for (int i = t; i < m.length; i++) {
                for (int k = t; k < width; k++) {
                    boolean less = row < 0 || m[i][k].abs().compareTo(m[row][column].abs()) < 0;
                    if (m[i][k].signum() != 0 && less) {
                        row = i;
                        column = k;
                    }
                }
            }
            if (row < 0) {
                return false;
            }
            BigInteger[] swapped = m[row];
            m[row] = m[t];
            m[t] = swapped;
            boolean clear = true;
            for (BigInteger[] each : m) {
                BigInteger v = each[column];
                each[column] = each[t];
                each[t] = v;
            }
            for (int i = t + 1; i < m.length; i++) {
                BigInteger often = m[i][t].divide(m[t][t]);
                for (int k = t; k < width; k++) {
                    m[i][k] = m[i][k].subtract(often.multiply(m[t][k]));
                }
                clear &= m[i][t].signum() == 0;
            }
            for (int k = t + 1; k < width; k++) {
                BigInteger often = m[t][k].divide(m[t][t]);
                for (int i = t; i < m.length; i++) {
                    m[i][k] = m[i][k].subtract(often.multiply(m[i][t]));
                }
                clear &= m[t][k].signum() == 0;
            }
            if (clear) {
                return true;
            }
        }
    }

    public int times(int complex, int other, int to) {
        return ask(() -> {
            List<Cell> first = complex(complex);
            List<Cell> second = complex(other);
            complex(to);
            refuse(-2, first.size() * second.size() > 12);
            List<Cell> all = new ArrayList<>();
            Map<Cell, Map<Cell, Cell>> pairs = new IdentityHashMap<>();
            for (Cell x : first) {
                pairs.put(x, new IdentityHashMap<>());
                for (Cell y : second) {
                    Cell both = new Cell(x.degree + y.degree, x.level[0] + y.level[0], x.level[1] + y.level[1]);
                    refuse(-2, both.degree > 4 || both.level[0] > 9 || both.level[1] > 9);
                    pairs.get(x).put(y, both);
                    all.add(both);
                }
            }
            pairs.forEach((x, row) -> row.forEach((y, both) -> {
                x.edge.forEach((below, v) -> both.edge.put(pairs.get(below).get(y), v));
                y.edge.forEach((below, v) -> both.edge.put(row.get(below), x.degree == 1 || x.degree == 3 ? -v : v));
            }));
            complexes.set(to, all);
            return all.size();
        });
    }

    public int part(int complex, int way, int l, int to) {
        return ask(() -> {
            complex(to);
            List<Cell> all = copied(complex(complex));
            between(0, way, 1);
            between(0, l, 9);
            all.removeIf(x -> x.level[way] > l);
            all.forEach(x -> x.edge.keySet().retainAll(all));
            complexes.set(to, all);
            return all.size();
        });
    }

    private static List<Cell> copied(List<Cell> c) {
        Map<Cell, Cell> copies = new IdentityHashMap<>();
        List<Cell> all = new ArrayList<>();
        for (Cell x : c) {
            copies.put(x, new Cell(x.degree, x.level[0], x.level[1]));
            all.add(copies.get(x));
        }
        c.forEach(x -> x.edge.forEach((y, v) -> copies.get(x).edge.put(copies.get(y), v)));
        return all;
    }

    public int would(int complex, int x, int y, int v, int p, int degree) {
        return ask(() -> {
            List<Cell> c = complex(complex);
            Cell of = cellOf(c, x);
            Cell at = cellOf(c, y);
            bad(!of.mayHave(at));
            between(-9, v, 9);
            prime(p);
            between(0, degree, 4);
            noTrials();
            return tried(of, at, v, () -> staying(sound(c), p, degree));
        });
    }

    public int trials(int what) {
        return ask(() -> trials[between(0, what, 2)]);
    }

    public int sheet(int sheet, int sort, int n) {
        return ask(() -> {
            between(0, sheet, 3);
            between(-1, sort, 2);
            if (sort == -1) {
                sheets[sheet] = null;
                return 1;
            }
            bad(n > 40);
            refuse(-14, n < 0);
            sheets[sheet] = sort == 0 ? new byte[n] : sort == 1 ? new int[n] : new long[n];
            return 1;
        });
    }

    private Object row(int sheet) {
        refuse(-11, sheets[sheet] == null);
        return sheets[sheet];
    }

    private static int sort(Object row) {
        return row instanceof byte[] ? 0 : row instanceof int[] ? 1 : 2;
    }

    private static int size(Object row) {
        return java.lang.reflect.Array.getLength(row);
    }

    private static void outside(Object row, int i, int n) {
        refuse(-12, n < 0 || i < 0 || (long) i + n > size(row));
    }

    private static void set(Object row, int i, long v) {
        switch (sort(row)) {
            case 0 -> ((byte[]) row)[i] = (byte) v;
            case 1 -> ((int[]) row)[i] = (int) v;
            default -> ((long[]) row)[i] = v;
        }
    }

    private static long get(Object row, int i) {
        return ((Number) java.lang.reflect.Array.get(row, i)).longValue();
    }

    public int put(int sheet, int i, long v) {
        return ask(() -> {
            between(0, sheet, 3);
            outside(row(sheet), i, 1);
            set(row(sheet), i, v);
            return 1;
        });
    }

    public int item(int sheet, int sort, int i) {
        return ask(() -> {
            between(0, sheet, 3);
            between(0, sort, 2);
            refuse(-13, sort(row(sheet)) != sort);
            outside(row(sheet), i, 1);
            return (int) get(row(sheet), i);
        });
    }

    public int copy(int sheet, int i, int other, int j, int n) {
        return ask(() -> {
            between(0, sheet, 3);
            between(0, other, 3);
            row(sheet);
            refuse(-13, sort(row(sheet)) != sort(row(other)));
            outside(row(sheet), i, n);
            outside(row(other), j, n);
            List<Long> places = new ArrayList<>();
            for (int k = 0; k < n; k++) {
                places.add(get(row(sheet), i + k));
            }
            for (int k = 0; k < n; k++) {
                set(row(other), j + k, places.get(k));
            }
            return n;
        });
    }

    private Object rowOfEdge(int sheet, int i, int n) {
        refuse(-13, sort(row(sheet)) == 2);
        outside(row(sheet), i, n);
        return row(sheet);
    }

    public int lay(int complex, int cell, int sheet, int i) {
        return ask(() -> {
            List<Cell> c = complex(complex);
            Cell x = cellOf(c, cell);
            between(0, sheet, 3);
            Object row = rowOfEdge(sheet, i, c.size());
            c.forEach(y -> set(row, i + c.indexOf(y), x.entry(y)));
            return c.size();
        });
    }

    public int take(int sheet, int i, int complex, int cell) {
        return ask(() -> {
            List<Cell> c = complex(complex);
            Cell x = cellOf(c, cell);
            between(0, sheet, 3);
            Object row = rowOfEdge(sheet, i, c.size());
            Map<Cell, Integer> edge = new IdentityHashMap<>();
            int others = 0;
            for (Cell y : c) {
                int v = (int) get(row, i + c.indexOf(y));
                between(-9, v, 9);
                bad(v != 0 && !x.mayHave(y));
                edge.put(y, v);
                others += v == x.entry(y) ? 0 : 1;
            }
            x.edge = edge;
            return others;
        });
    }

    public int many(int what) {
        return ask(() -> {
            int[] told = {0, 0, 0, tape.length()};
            for (int i = 0; i < 4; i++) {
                told[0] += complex(i).size();
                told[1] += complex(i).isEmpty() ? 0 : 1 << i;
                told[2] += brokenAt(complex(i)) == 0 ? 0 : 1 << i;
            }
            return told[between(0, what, 3)];
        });
    }

    public int keep() {
        kept = new ArrayList<>();
        complexes.forEach(c -> kept.add(copied(c)));
        return 1;
    }

    public int again() {
        return ask(() -> {
            refuse(-3, kept == null);
            for (int i = 0; i < 4; i++) {
                complexes.set(i, copied(kept.get(i)));
            }
            return many(0);
        });
    }
}
