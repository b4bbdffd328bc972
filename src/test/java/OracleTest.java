import java.math.BigInteger;
import java.util.ArrayList;
import java.util.List;

/** Many COMPLEXES made by a counter, each answer compared with one found in another way. */
public final class OracleTest {
    private static final int[] PRIMES = {2, 3, 5, 7};
    private static long seed = 20240229;

    private static int upTo(int most) {
        seed = seed * 6364136223846793005L + 1442695040888963407L;
        return (int) ((seed >>> 33) % (most + 1));
    }

    public static void main(String[] args) {
        for (int round = 0; round < 400; round++) {
            Model m = round % 4 == 3 ? Model.any() : Model.unbroken(12);
            cells(m);
            if (m.broken() == 0) {
                reduced(m);
                pages(m);
                numbers(m);
            }
            mend(m);
            would(m);
            part(m);
            textOf(m);
        }
        for (int round = 0; round < 200; round++) {
            times(round % 4 == 3 ? Model.any() : Model.unbroken(2 + upTo(2)), Model.unbroken(2 + upTo(3)));
        }
        for (int round = 0; round < 100; round++) {
            oneAfterAnother();
        }
        for (int round = 0; round < 3000; round++) {
            String text = Texts.nearlyText();
            for (int length = round % 10 == 0 ? 0 : text.length(); length <= text.length(); length++) {
                faultOf(text.substring(0, length));
            }
        }
        Due.end("OracleTest");
    }

    private static void cells(Model m) {
        PagesByLevels x = m.made(2);
        Due.isTrue("shape", Due.shape(x, 2).equals(m.shape()));
        Due.due("broken of " + m.shape(), x.broken(2), m.broken());
        for (int c = 0; c < m.n; c++) {
            int in = 0;
            int with = 0;
            for (int y = 0; y < m.n; y++) {
                in += m.d[c][y] != 0 ? 1 : 0;
                with += m.d[y][c] != 0 ? 1 : 0;
            }
            Due.due("of 3", x.of(2, c, 3), in);
            Due.due("of 4", x.of(2, c, 4), with);
        }
    }

    private static void reduced(Model m) {
        for (int way = 0; way < 2; way++) {
            for (int p : PRIMES) {
                PagesByLevels x = m.made(0);
                int[][] want = m.reduced(way, p);
                int[] partners = m.partners(way, p);
                for (int c = 0; c < m.n; c++) {
                    Due.due("goes by " + way + ", " + p + " of " + c + " in " + m.shape(),
                        x.goes(0, way, p, c), partners[c] < 0 ? -3 : partners[c]);
                    for (int y = 0; y < m.n; y++) {
                        Due.due("reduced by " + way + ", " + p + " of " + c + ", " + y + " in " + m.shape(),
                            x.reduced(0, way, p, c, y), want[c][y]);
                    }
                }
            }
        }
    }

    private static void pages(Model m) {
        for (int way = 0; way < 2; way++) {
            int p = PRIMES[upTo(3)];
            int[] partners = m.partners(way, p);
            int stands = 0;
            for (int r = 0; r <= 10; r++) {
                PagesByLevels x = m.made(3);
                for (int c = 0; c < m.n; c++) {
                    int level = m.level[way][c];
                    int degree = m.degree[c];
                    Due.due("page", x.page(3, way, p, r, level, degree), m.page(partners, way, r, level, degree));
                    Due.due("turns", x.turns(3, way, p, r, level, degree), m.turns(partners, way, r, level, degree));
                    if (partners[c] >= 0 && Math.abs(level - m.level[way][partners[c]]) >= r) {
                        stands = r + 1;
                    }
                }
            }
            PagesByLevels x = m.made(3);
            Due.due("stands", x.stands(3, way, p), stands);
            for (int degree = 0; degree < 5; degree++) {
                Due.due("left", x.left(3, p, degree), m.left(p, degree));
            }
        }
    }

    private static void numbers(Model m) {
        PagesByLevels x = m.made(1);
        for (int degree = 0; degree < 5; degree++) {
            List<BigInteger> want = m.whole(0, -1, degree);
            for (int i = 0; i <= want.size(); i++) {
                Due.due("whole of " + degree + ", " + i + " in " + m.shape(), x.whole(1, degree, i),
                    i < want.size() ? want.get(i).longValueExact() : -3);
            }
        }
        int way = upTo(1);
        for (int c = 0; c < m.n; c++) {
            int degree = Math.max(0, m.degree[c] - upTo(1));
            List<BigInteger> want = m.whole(way, m.level[way][c], degree);
            for (int i = 0; i <= want.size(); i++) {
                Due.due("wholeAt", x.wholeAt(1, way, m.level[way][c], degree, i),
                    i < want.size() ? want.get(i).longValueExact() : -3);
            }
        }
    }

    /** What was found for one COMPLEX must not be seen in what is found for the next one. */
    private static void oneAfterAnother() {
        PagesByLevels x = new PagesByLevels();
        for (int round = 0; round < 5; round++) {
            Model m = Model.unbroken(1 + upTo(11));
            int p = PRIMES[upTo(3)];
            int[] partners = m.partners(0, p);
            m.put(x, 0);
            for (int c = 0; c < m.n; c++) {
                Due.due("goes, one after another", x.goes(0, 0, p, c), partners[c] < 0 ? -3 : partners[c]);
            }
            for (int degree = 0; degree < 5; degree++) {
                List<BigInteger> want = m.whole(0, -1, degree);
                Due.due("left, one after another", x.left(0, p, degree), m.left(p, degree));
                for (int i = 0; i < 2; i++) {
                    Due.due("whole, one after another", x.whole(0, degree, i),
                        i < want.size() ? want.get(i).longValueExact() : -3);
                }
            }
        }
    }

    private static void mend(Model m) {
        PagesByLevels x = m.made(0);
        int trials = 0;
        int answer = -3;
        if (m.broken() != 0) {
            for (int i = 0; i < m.n * m.n * 19 && answer == -3; i++) {
                int a = i / 19 / m.n;
                int b = i / 19 % m.n;
                if (m.may(a, b)) {
                    int was = m.d[a][b];
                    m.d[a][b] = i % 19 - 9;
                    answer = m.broken() == 0 ? 400 * a + 20 * b + i % 19 : -3;
                    m.d[a][b] = was;
                    trials++;
                }
            }
        }
        Due.due("mend of " + m.shape(), x.mend(0), answer);
        Due.due("trials of it", x.trials(0), trials);
        Due.isTrue("mend changes nothing", Due.shape(x, 0).equals(m.shape()));
    }

    private static void would(Model m) {
        PagesByLevels x = m.made(0);
        for (int i = 0; i < 20 && m.n > 0; i++) {
            int a = upTo(m.n - 1);
            int b = upTo(m.n - 1);
            int v = upTo(18) - 9;
            int p = PRIMES[upTo(3)];
            int degree = upTo(4);
            int want = -1;
            if (m.may(a, b)) {
                int was = m.d[a][b];
                m.d[a][b] = v;
                want = m.broken() != 0 ? -4 : m.left(p, degree);
                m.d[a][b] = was;
            }
            Due.due("would of " + m.shape(), x.would(0, a, b, v, p, degree), want);
        }
        Due.isTrue("would changes nothing", Due.shape(x, 0).equals(m.shape()));
    }

    private static void part(Model m) {
        int way = upTo(1);
        int most = upTo(9);
        Model want = new Model();
        int[] from = new int[12];
        for (int c = 0; c < m.n; c++) {
            if (m.level[way][c] <= most) {
                from[want.n] = c;
                want.add(m.degree[c], m.level[0][c], m.level[1][c]);
            }
        }
        for (int c = 0; c < want.n; c++) {
            for (int y = 0; y < want.n; y++) {
                want.d[c][y] = m.d[from[c]][from[y]];
            }
        }
        PagesByLevels x = m.made(0);
        Due.due("part", x.part(0, way, most, 1), want.n);
        Due.isTrue("what part made", Due.shape(x, 1).equals(want.shape()));
        x = m.made(0);
        Due.due("part onto itself", x.part(0, way, most, 0), want.n);
        Due.isTrue("what part made of itself", Due.shape(x, 0).equals(want.shape()));
    }

    private static void times(Model a, Model b) {
        int size = a.n * b.n;
        boolean full = size > 12;
        int[][] pairs = new int[size][];
        for (int i = 0; i < size; i++) {
            int x = i / b.n;
            int y = i % b.n;
            pairs[i] = new int[] {x, y};
            full |= a.degree[x] + b.degree[y] > 4;
            full |= a.level[0][x] + b.level[0][y] > 9 || a.level[1][x] + b.level[1][y] > 9;
        }
        PagesByLevels x = a.made(0);
        b.put(x, 1);
        Due.due("times", x.times(0, 1, 2), full ? -2 : size);
        if (full) {
            return;
        }
        Model want = new Model();
        for (int[] p : pairs) {
            want.add(a.degree[p[0]] + b.degree[p[1]], a.level[0][p[0]] + b.level[0][p[1]],
                a.level[1][p[0]] + b.level[1][p[1]]);
        }
        for (int i = 0; i < size; i++) {
            for (int k = 0; k < size; k++) {
                if (pairs[i][1] == pairs[k][1]) {
                    want.d[i][k] += a.d[pairs[i][0]][pairs[k][0]];
                }
                if (pairs[i][0] == pairs[k][0]) {
                    want.d[i][k] += (a.degree[pairs[i][0]] % 2 == 0 ? 1 : -1) * b.d[pairs[i][1]][pairs[k][1]];
                }
            }
        }
        Due.isTrue("what times made", Due.shape(x, 2).equals(want.shape()));
        Due.due("times of those not BROKEN is not BROKEN", x.broken(2) != 0 ? 1 : 0, a.broken() != 0 ? 1 : 0);
        x = a.made(0);
        b.put(x, 1);
        Due.due("times onto the second", x.times(0, 1, 1), size);
        Due.isTrue("what it made", Due.shape(x, 1).equals(want.shape()));
    }

    private static void textOf(Model m) {
        StringBuilder text = new StringBuilder();
        for (int c = 0; c < m.n; c++) {
            text.append(Texts.blanks()).append(upTo(1) == 0 ? "0" : "").append(m.degree[c]);
            boolean same = m.level[0][c] == m.level[1][c];
            if (!same || m.level[0][c] != 0 || upTo(1) == 0) {
                text.append(Texts.blanks()).append('@').append(Texts.blanks()).append(m.level[0][c]);
                text.append(same && upTo(1) == 0 ? "" : " " + Texts.blanks() + m.level[1][c]);
            }
            String sign = ":";
            for (int y = c - 1; y >= 0; y--) {
                int v = m.d[c][y];
                if (v != 0) {
                    text.append(sign).append(Texts.blanks()).append(v < 0 ? "-" : "");
                    text.append(Math.abs(v) == 1 ? "" : Math.abs(v) + Texts.blanks() + "*").append(y);
                    sign = ",";
                }
            }
            text.append(Texts.blanks()).append(';');
        }
        if (text.length() <= 200 && m.ahead()) {
            PagesByLevels x = new PagesByLevels();
            Due.due("text of " + text, Due.text(x, 3, text.toString()), m.n);
            Due.isTrue("what \"" + text + "\" told", Due.shape(x, 3).equals(m.shape()));
        }
    }

    private static void faultOf(String text) {
        Texts t = new Texts(text);
        int want = t.read();
        PagesByLevels x = new PagesByLevels();
        Due.due("text of \"" + text + "\"", Due.text(x, 0, text), want);
        Due.isTrue("what \"" + text + "\" told", Due.shape(x, 0).equals(want < 0 ? "" : t.model.shape()));
    }

    /** A TEXT read by its signs: N as one sign, then a step for each. */
    private static final class Texts {
        final Model model = new Model();
        final List<Integer> values = new ArrayList<>();
        final List<Integer> places = new ArrayList<>();
        int at = 0;

        Texts(String text) {
            for (int i = 0; i < text.length(); i++) {
                char c = text.charAt(i);
                if (c == ' ') {
                    continue;
                }
                places.add(i);
                if (c < '0' || c > '9') {
                    values.add(-c);
                    continue;
                }
                int from = i;
                while (i + 1 < text.length() && text.charAt(i + 1) >= '0' && text.charAt(i + 1) <= '9') {
                    i++;
                }
                values.add(i - from > 1 ? 1000 : Integer.parseInt(text.substring(from, i + 1)));
            }
            places.add(text.length());
            values.add(-1);
        }

        static String blanks() {
            return "   ".substring(Math.min(3, upTo(12)));
        }

        static String nearlyText() {
            String[] signs = {";", ":", "@", "*", "-", ",", "0", "1", "2", "10", " ", "012", "x"};
            StringBuilder text = new StringBuilder();
            for (int cells = upTo(4); cells >= 0; cells--) {
                text.append(blanks()).append(upTo(2));
                text.append(upTo(2) > 0 ? "" : "@" + upTo(3)).append(upTo(4) > 0 ? "" : " " + upTo(10));
                if (upTo(1) > 0) {
                    text.append(":").append(blanks()).append(upTo(1) > 0 ? "-" : "");
                    text.append(upTo(1) > 0 ? "" : upTo(10) + "*").append(upTo(2));
                    text.append(upTo(1) > 0 ? "" : ",").append(upTo(1) > 0 ? "" : "1");
                }
                text.append(";");
            }
            for (int spoilt = upTo(2); spoilt > 0; spoilt--) {
                int place = upTo(text.length() - 1);
                text.replace(place, place + upTo(1), upTo(1) > 0 ? "" : signs[upTo(signs.length - 1)]);
                text.setLength(upTo(3) > 0 ? text.length() : upTo(text.length()));
                text.append(text.length() == 0 ? "0" : "");
            }
            return text.toString();
        }

        int fault() {
            return -100 - places.get(at);
        }

        boolean next(int sign) {
            if (values.get(at) == -sign) {
                at++;
                return true;
            }
            return false;
        }

        boolean number(int most) {
            return values.get(at) >= 0 && values.get(at) <= most;
        }

        int read() {
            while (values.get(at) != -1) {
                if (model.n == 12 || !number(4)) {
                    return fault();
                }
                int degree = values.get(at++);
                int level = 0;
                int other = 0;
                if (next('@')) {
                    if (!number(9)) {
                        return fault();
                    }
                    level = values.get(at++);
                    other = level;
                    if (values.get(at) >= 0) {
                        if (!number(9)) {
                            return fault();
                        }
                        other = values.get(at++);
                    }
                }
                model.add(degree, level, other);
                if (next(':') && !entries() || !next(';')) {
                    return fault();
                }
            }
            return model.n;
        }

        boolean entries() {
            boolean[] told = new boolean[12];
            int x = model.n - 1;
            do {
                int sign = next('-') ? -1 : 1;
                int often = 1;
                if (values.get(at) >= 0 && values.get(at + 1) == -'*') {
                    if (!number(9)) {
                        return false;
                    }
                    often = values.get(at);
                    at += 2;
                } else if (number(9) && values.get(at + 1) == -1) {
                    at++;
                    return false;
                }
                int y = number(11) ? values.get(at) : 12;
                if (y >= x || !model.may(x, y) || told[y]) {
                    return false;
                }
                at++;
                told[y] = true;
                model.d[x][y] = sign * often;
            } while (next(','));
            return true;
        }
    }

    /** A COMPLEX in plain rows. */
    private static final class Model {
        int n = 0;
        final int[] degree = new int[12];
        final int[][] level = new int[2][12];
        final int[][] d = new int[12][12];

        void add(int ofDegree, int first, int second) {
            degree[n] = ofDegree;
            level[0][n] = first;
            level[1][n] = second;
            n++;
        }

        boolean may(int x, int y) {
            return degree[x] == degree[y] + 1 && level[0][x] >= level[0][y] && level[1][x] >= level[1][y];
        }

        static Model any() {
            Model m = new Model();
            int cells = upTo(12);
            int spread = upTo(9);
            for (int i = 0; i < cells; i++) {
                m.add(upTo(2) + (spread > 6 ? upTo(2) : 0), upTo(spread), upTo(spread));
            }
            int many = 1 + upTo(4);
            for (int x = 0; x < cells; x++) {
                for (int y = 0; y < cells; y++) {
                    m.d[x][y] = m.may(x, y) && upTo(many) == 0 ? upTo(18) - 9 : 0;
                }
            }
            return m;
        }

        /** Pairs that go together, and then CELLS put on one another, which keeps it from being BROKEN. */
        static Model unbroken(int most) {
            Model m = new Model();
            int spread = upTo(6);
            int lowest = upTo(2);
            while (m.n + 1 < most) {
                int low = lowest + upTo(1);
                m.add(low, upTo(spread), upTo(spread));
                if (upTo(4) > 0) {
                    m.add(low + 1, Math.min(9, m.level[0][m.n - 1] + upTo(3)), Math.min(9, m.level[1][m.n - 1] + upTo(3)));
                    m.d[m.n - 1][m.n - 2] = 1 + upTo(upTo(1) == 0 ? 8 : 0);
                }
            }
            for (int i = 0; i < 200 && m.n > 0; i++) {
                int a = upTo(m.n - 1);
                int b = upTo(m.n - 1);
                if (a != b) {
                    m.putOn(a, b, upTo(4) - 2);
                }
            }
            return m;
        }

        void putOn(int a, int b, int k) {
            boolean fits = degree[a] == degree[b] && level[0][b] <= level[0][a] && level[1][b] <= level[1][a];
            for (int y = 0; y < n && fits; y++) {
                fits = Math.abs(d[a][y] + k * d[b][y]) <= 9 && Math.abs(d[y][b] - k * d[y][a]) <= 9;
            }
            for (int y = 0; y < n && fits; y++) {
                d[a][y] += k * d[b][y];
                d[y][b] -= k * d[y][a];
            }
        }

        void put(PagesByLevels x, int complex) {
            x.clear(complex);
            for (int i = 0; i < n; i++) {
                Due.due("cell", x.cell(complex, degree[i], level[0][i], level[1][i]), i);
            }
            for (int i = 0; i < n; i++) {
                for (int y = 0; y < n; y++) {
                    if (d[i][y] != 0) {
                        Due.due("entry", x.entry(complex, i, y, d[i][y]), 10);
                    }
                }
            }
        }

        PagesByLevels made(int complex) {
            PagesByLevels x = new PagesByLevels();
            put(x, complex);
            return x;
        }

        boolean ahead() {
            for (int x = 0; x < n; x++) {
                for (int y = x; y < n; y++) {
                    if (d[x][y] != 0) {
                        return false;
                    }
                }
            }
            return true;
        }

        String shape() {
            StringBuilder all = new StringBuilder();
            for (int x = 0; x < n; x++) {
                all.append(degree[x] + "@" + level[0][x] + " " + level[1][x] + ":");
                for (int y = 0; y < n; y++) {
                    all.append(d[x][y] + ",");
                }
                all.append(";");
            }
            return all.toString();
        }

        int broken() {
            for (int x = 0; x < n; x++) {
                for (int y = 0; y < n; y++) {
                    int sum = 0;
                    for (int z = 0; z < n; z++) {
                        sum += d[x][z] * d[z][y];
                    }
                    if (sum != 0) {
                        return 1 + 16 * x + y;
                    }
                }
            }
            return 0;
        }

        int[] order(int way) {
            List<Integer> all = new ArrayList<>();
            for (int x = 0; x < n; x++) {
                all.add(x);
            }
            all.sort((a, b) -> (level[way][a] * 100 + degree[a]) * 100 + a - (level[way][b] * 100 + degree[b]) * 100 - b);
            return all.stream().mapToInt(a -> a).toArray();
        }

        /** Taken away once and once again till the last one is nothing. */
        int[][] reduced(int way, int p) {
            int[] order = order(way);
            int[][] r = new int[n][n];
            for (int at = 0; at < n; at++) {
                int x = order[at];
                for (int y = 0; y < n; y++) {
                    r[x][y] = Math.floorMod(d[x][y], p);
                }
                for (int ahead = 0; ahead < at; ahead++) {
                    int last = last(r[x], order);
                    if (last >= 0 && last(r[order[ahead]], order) == last) {
                        while (r[x][last] != 0) {
                            for (int y = 0; y < n; y++) {
                                r[x][y] = (r[x][y] + p - r[order[ahead]][y]) % p;
                            }
                        }
                        ahead = -1;
                    }
                }
            }
            return r;
        }

        int last(int[] row, int[] order) {
            int last = -1;
            for (int y : order) {
                last = row[y] != 0 ? y : last;
            }
            return last;
        }

        /** Which two go together, told by ranks of corners alone. */
        int[] partners(int way, int p) {
            int[] order = order(way);
            int[] partners = new int[n];
            java.util.Arrays.fill(partners, -1);
            for (int i = 0; i < n; i++) {
                for (int k = i + 1; k < n; k++) {
                    int count = corner(order, i, k, p) - corner(order, i + 1, k, p)
                        - corner(order, i, k - 1, p) + corner(order, i + 1, k - 1, p);
                    if (count == 1) {
                        partners[order[i]] = order[k];
                        partners[order[k]] = order[i];
                    }
                }
            }
            return partners;
        }

        /** The rank by p of the ENTRIES of those from place i on in the EDGES of those up to place k. */
        int corner(int[] order, int i, int k, int p) {
            int[][] rows = new int[Math.max(0, k + 1)][Math.max(0, n - i)];
            for (int a = 0; a <= k; a++) {
                for (int b = i; b < n; b++) {
                    rows[a][b - i] = Math.floorMod(d[order[a]][order[b]], p);
                }
            }
            return rank(rows, p);
        }

        static int rank(int[][] rows, int p) {
            int rank = 0;
            for (int column = 0; rows.length > 0 && column < rows[0].length; column++) {
                int pivot = rank;
                while (pivot < rows.length && rows[pivot][column] == 0) {
                    pivot++;
                }
                if (pivot == rows.length) {
                    continue;
                }
                int[] row = rows[pivot];
                rows[pivot] = rows[rank];
                rows[rank] = row;
                for (int below = rank + 1; below < rows.length; below++) {
                    int by = rows[below][column];
                    for (int c = 0; c < row.length; c++) {
                        rows[below][c] = Math.floorMod(rows[below][c] * row[column] - by * row[c], p);
                    }
                }
                rank++;
            }
            return rank;
        }

        int page(int[] partners, int way, int r, int atLevel, int ofDegree) {
            int found = 0;
            for (int x = 0; x < n; x++) {
                boolean here = level[way][x] == atLevel && degree[x] == ofDegree;
                if (here && (partners[x] < 0 || Math.abs(level[way][x] - level[way][partners[x]]) >= r)) {
                    found++;
                }
            }
            return found;
        }

        int turns(int[] partners, int way, int r, int atLevel, int ofDegree) {
            int found = 0;
            for (int x = 0; x < n; x++) {
                boolean here = level[way][x] == atLevel && degree[x] == ofDegree;
                if (here && partners[x] >= 0 && degree[partners[x]] < ofDegree) {
                    found += level[way][x] - level[way][partners[x]] == r ? 1 : 0;
                }
            }
            return found;
        }

        int[][] edges(int ofDegree, int p) {
            int[][] rows = new int[n][n];
            for (int x = 0; x < n; x++) {
                for (int y = 0; y < n; y++) {
                    rows[x][y] = degree[x] == ofDegree ? Math.floorMod(d[x][y], p) : 0;
                }
            }
            return rows;
        }

        int left(int p, int ofDegree) {
            int cells = 0;
            for (int x = 0; x < n; x++) {
                cells += degree[x] == ofDegree ? 1 : 0;
            }
            return cells - rank(edges(ofDegree, p), p) - rank(edges(ofDegree + 1, p), p);
        }

        /** FREE, then the FACTORS. */
        List<BigInteger> whole(int way, int atLevel, int ofDegree) {
            int cells = 0;
            for (int x = 0; x < n; x++) {
                cells += degree[x] == ofDegree && (atLevel < 0 || level[way][x] == atLevel) ? 1 : 0;
            }
            List<BigInteger> below = diagonal(way, atLevel, ofDegree);
            List<BigInteger> above = diagonal(way, atLevel, ofDegree + 1);
            List<BigInteger> all = new ArrayList<>();
            all.add(BigInteger.valueOf(cells - below.size() - above.size()));
            for (BigInteger factor : above) {
                if (!factor.equals(BigInteger.ONE)) {
                    all.add(factor);
                }
            }
            return all;
        }

        /** What the EDGES of a DEGREE come to by turning rows and columns into one another. */
        List<BigInteger> diagonal(int way, int atLevel, int ofDegree) {
            BigInteger[][] a = new BigInteger[n][n];
            for (int x = 0; x < n; x++) {
                for (int y = 0; y < n; y++) {
                    boolean in = degree[x] == ofDegree
                        && (atLevel < 0 || level[way][x] == atLevel && level[way][y] == atLevel);
                    a[x][y] = BigInteger.valueOf(in ? d[x][y] : 0);
                }
            }
            List<BigInteger> found = new ArrayList<>();
            for (int k = 0; k < n; k++) {
                if (!pivot(a, k)) {
                    break;
                }
                found.add(a[k][k].abs());
            }
            return found;
        }

        boolean pivot(BigInteger[][] a, int k) {
            while (true) {
                int row = -1;
                int column = -1;
                for (int x = k; x < n; x++) {
                    for (int y = k; y < n; y++) {
                        boolean less = row < 0 || a[x][y].abs().compareTo(a[row][column].abs()) < 0;
                        if (a[x][y].signum() != 0 && less) {
                            row = x;
                            column = y;
                        }
                    }
                }
                if (row < 0) {
                    return false;
                }
                swap(a, k, row, column);
                if (clearedRound(a, k)) {
                    return true;
                }
            }
        }

        void swap(BigInteger[][] a, int k, int row, int column) {
            BigInteger[] r = a[k];
            a[k] = a[row];
            a[row] = r;
            for (int x = 0; x < n; x++) {
                BigInteger v = a[x][k];
                a[x][k] = a[x][column];
                a[x][column] = v;
            }
        }

        boolean clearedRound(BigInteger[][] a, int k) {
            boolean clear = true;
            for (int x = k + 1; x < n; x++) {
                BigInteger by = a[x][k].divide(a[k][k]);
                for (int y = k; y < n; y++) {
                    a[x][y] = a[x][y].subtract(by.multiply(a[k][y]));
                }
                clear &= a[x][k].signum() == 0;
            }
            for (int y = k + 1; y < n; y++) {
                BigInteger by = a[k][y].divide(a[k][k]);
                for (int x = k; x < n; x++) {
                    a[x][y] = a[x][y].subtract(by.multiply(a[x][k]));
                }
                clear &= a[k][y].signum() == 0;
            }
            for (int x = k + 1; x < n && clear; x++) {
                for (int y = k + 1; y < n && clear; y++) {
                    if (a[x][y].mod(a[k][k].abs()).signum() != 0) {
                        for (int c = k; c < n; c++) {
                            a[k][c] = a[k][c].add(a[x][c]);
                        }
                        clear = false;
                    }
                }
            }
            return clear;
        }
    }
}
