import java.util.ArrayList;
import java.util.HashSet;
import java.util.List;
import java.util.Set;

/** What the document says of the bath and its sheets, told a second time and as simply as can be. */
final class BathModel {
    static final int NONE = -1;

    final List<int[]> facts = new ArrayList<>();
    final StringBuilder tape = new StringBuilder();
    TextModel book = new TextModel();
    int faultPlace = NONE;
    int brokeWhy;
    int brokePlace = NONE;
    final List<Integer> lastRow = new ArrayList<>();

    /** Kind, then its numbers. */
    static boolean fits(int[] f) {
        switch (f[0]) {
            case 0:
                return in(f[1], 0, 1023) && in(f[2], 0, 1023) && in(f[3], 1, 512) && in(f[4], 0, 7);
            case 1:
                return in(f[1], 0, 1) && in(f[2], 0, 1023) && in(f[3], -1023, 1023) && in(f[4], 1, 1023);
            case 2:
                return in(f[1], 0, 1) && in(f[2], 0, 1023) && in(f[3], 1, 1023) && in(f[4], 1, 20)
                        && in(f[5], -1023, 1023) && in(f[6], 1, 1023);
            case 3:
                return in(f[1], 0, 1) && in(f[2], 2, 1024) && in(f[3], -1023, 1023);
            default:
                return in(f[1], 0, 63);
        }
    }

    private static boolean in(int value, int least, int most) {
        return value >= least && value <= most;
    }

    // ---- tape

    int feed(int... words) {
        if (tape.length() + 20 > 2000) {
            return NONE;
        }
        for (int word : words) {
            for (int k = 3; k >= 0; k--) {
                tape.append((char) (word >> 8 * k & 255));
            }
        }
        return tape.length();
    }

    int back(int n) {
        if (n < 0 || n > tape.length()) {
            return NONE;
        }
        tape.setLength(tape.length() - n);
        return tape.length();
    }

    int read() {
        TextModel next = TextModel.read(tape.toString());
        tape.setLength(0);
        faultPlace = next.place;
        if (next.fault == 0) {
            book = next;
        }
        return next.fault;
    }

    // ---- log

    int tell(int... fact) {
        if (facts.size() >= 120 || !fits(fact)) {
            return NONE;
        }
        facts.add(fact);
        return facts.size() - 1;
    }

    int strike(int fact) {
        if (facts.size() >= 120 || fact < 0 || fact >= facts.size() || facts.get(fact)[0] == 5) {
            return NONE;
        }
        facts.add(new int[] {5, fact});
        return facts.size() - 1;
    }

    int run(int pattern, int a, int b) {
        if (pattern < 0 || pattern >= book.patterns.size()) {
            return NONE;
        }
        try {
            List<int[]> strokes = book.perform(pattern, a, b, 120 - facts.size());
            facts.addAll(strokes);
            return strokes.size();
        } catch (TextModel.Break broken) {
            brokeWhy = broken.why;
            brokePlace = broken.place;
            return -2;
        }
    }

    int parameters(int pattern) {
        boolean some = pattern >= 0 && pattern < book.patterns.size();
        return some ? book.patterns.get(pattern).parameters.size() : NONE;
    }

    int kind(int fact) {
        return fact >= 0 && fact < facts.size() ? facts.get(fact)[0] : NONE;
    }

    int number(int fact, int i) {
        if (fact < 0 || fact >= facts.size() || i < 0 || i >= facts.get(fact).length - 1) {
            return NONE;
        }
        return facts.get(fact)[i + 1];
    }

    private boolean noSuch(int n) {
        return n < 0 || n > facts.size();
    }

    private Set<Integer> out(int n) {
        Set<Integer> out = new HashSet<>();
        for (int[] fact : facts.subList(0, n)) {
            if (fact[0] == 5) {
                out.add(fact[1]);
            }
        }
        return out;
    }

    int struck(int fact, int n) {
        return noSuch(n) || fact < 0 || fact >= n ? NONE : out(n).contains(fact) ? 1 : 0;
    }

    /** Fact numbers of the strokes between lays: one list for each sheet, and one for what floats. */
    private List<List<Integer>> spans(int n) {
        Set<Integer> out = out(n);
        List<List<Integer>> spans = new ArrayList<>();
        spans.add(new ArrayList<>());
        for (int i = 0; i < n; i++) {
            int kind = facts.get(i)[0];
            if (!out.contains(i) && kind == 4) {
                spans.add(new ArrayList<>());
            } else if (!out.contains(i) && kind < 4) {
                spans.get(spans.size() - 1).add(i);
            }
        }
        return spans;
    }

    private int shakeOf(int sheet, int n) {
        Set<Integer> out = out(n);
        int lays = 0;
        for (int i = 0; i < n; i++) {
            if (facts.get(i)[0] == 4 && !out.contains(i)) {
                if (lays == sheet) {
                    return facts.get(i)[1];
                }
                lays++;
            }
        }
        throw new IllegalStateException();
    }

    // ---- the bath

    private static int root(long n) {
        long r = 0;
        while ((r + 1) * (r + 1) <= n) {
            r += Math.max(1, ((long) Math.sqrt(n) - r) / 2);
        }
        while (r * r > n) {
            r--;
        }
        return (int) r;
    }

    private static boolean isPoint(int x, int y) {
        return in(x, 0, 1023) && in(y, 0, 1023);
    }

    private static int halved(int by, int times) {
        int left = by;
        for (int i = 0; i < Math.min(times, 11); i++) {
            left /= 2;
        }
        return left;
    }

    private static int drag(int[] s, int other) {
        if (s[0] == 1) {
            return halved(s[3], Math.abs(other - s[2]) / s[4]);
        }
        if (s[0] == 2) {
            int sum = 0;
            for (int tooth = 0; tooth < s[4]; tooth++) {
                sum += halved(s[5], Math.abs(other - (s[2] + tooth * s[3])) / s[6]);
            }
            return sum;
        }
        int nearest = Integer.MAX_VALUE;
        for (int whole = 0; whole <= other + s[2]; whole += s[2]) {
            nearest = Math.min(nearest, Math.abs(other - whole));
        }
        return s[3] * nearest / s[2];
    }

    /** {which stroke's drop, x, y}: -1 of none; null from beyond the rim. */
    private static int[] goBack(List<int[]> strokes, int tire, int x, int y) {
        if (!isPoint(x, y)) {
            return null;
        }
        int[] p = {x, y};
        for (int i = strokes.size() - 1; i >= 0; i--) {
            int[] s = strokes.get(i);
            if (s[0] == 0) {
                int radius = Math.max(1, s[3] * (10 - tire) / 10);
                int u = p[0] - s[1];
                int v = p[1] - s[2];
                int d = u * u + v * v;
                if (d < radius * radius) {
                    return new int[] {i, p[0], p[1]};
                }
                p[0] = s[1] + u * root(d - radius * radius) / root(d);
                p[1] = s[2] + v * root(d - radius * radius) / root(d);
            } else {
                p[s[1]] -= drag(s, p[1 - s[1]]);
            }
            if (!isPoint(p[0], p[1])) {
                return null;
            }
        }
        return new int[] {-1, p[0], p[1]};
    }

    private static int[] goForth(List<int[]> strokes, int tire, int x, int y) {
        int[] p = {x, y};
        for (int[] s : strokes) {
            if (s[0] == 0) {
                int radius = Math.max(1, s[3] * (10 - tire) / 10);
                int u = p[0] - s[1];
                int v = p[1] - s[2];
                int d = u * u + v * v;
                if (d == 0) {
                    p[0] = s[1] + radius;
                } else {
                    p[0] = s[1] + u * root(d + radius * radius) / root(d);
                    p[1] = s[2] + v * root(d + radius * radius) / root(d);
                }
            } else {
                p[s[1]] += drag(s, p[1 - s[1]]);
            }
            if (!isPoint(p[0], p[1])) {
                return null;
            }
        }
        return p;
    }

    private List<Integer> floating(int n) {
        List<List<Integer>> spans = spans(n);
        return spans.get(spans.size() - 1);
    }

    private List<int[]> strokes(List<Integer> numbers) {
        List<int[]> strokes = new ArrayList<>();
        for (int number : numbers) {
            strokes.add(facts.get(number));
        }
        return strokes;
    }

    private int tire(int n) {
        return Math.min(9, spans(n).size() - 1);
    }

    int colour(int x, int y, int n) {
        if (noSuch(n)) {
            return NONE;
        }
        return colour(strokes(floating(n)), tire(n), x, y);
    }

    private static int colour(List<int[]> strokes, int tire, int x, int y) {
        int[] came = goBack(strokes, tire, x, y);
        return came == null || came[0] < 0 ? NONE : strokes.get(came[0])[4];
    }

    int from(int x, int y, int n, int what) {
        if (noSuch(n) || !isPoint(x, y) || !in(what, 0, 2)) {
            return NONE;
        }
        int[] came = goBack(strokes(floating(n)), tire(n), x, y);
        if (came == null) {
            return NONE;
        }
        return what > 0 ? came[what] : came[0] < 0 ? NONE : floating(n).get(came[0]);
    }

    int to(int x, int y, int n, int what) {
        if (noSuch(n) || !isPoint(x, y) || !in(what, 0, 1)) {
            return NONE;
        }
        int[] went = goForth(strokes(floating(n)), tire(n), x, y);
        return went == null ? NONE : went[what];
    }

    int home(int x, int y, int n) {
        if (noSuch(n) || !isPoint(x, y)) {
            return NONE;
        }
        int[] went = goForth(strokes(floating(n)), tire(n), x, y);
        int[] came = went == null ? null : goBack(strokes(floating(n)), tire(n), went[0], went[1]);
        return came == null || came[0] >= 0 ? -2 : Math.abs(came[1] - x) + Math.abs(came[2] - y);
    }

    // ---- sheets

    int sheets(int n) {
        return noSuch(n) ? NONE : spans(n).size() - 1;
    }

    private static int[][] lay(List<int[]> strokes, int tire, int shake) {
        int[][] cells = new int[16][16];
        for (int i = 0; i < 16; i++) {
            for (int j = 0; j < 16; j++) {
                cells[i][j] = colour(strokes, tire, 64 * i + 32, 64 * j + 32 + i % 2 * shake);
            }
        }
        return cells;
    }

    private int[][] sheet(int sheet, int n) {
        if (noSuch(n) || sheet < 0 || sheet >= sheets(n)) {
            return null;
        }
        return lay(strokes(spans(n).get(sheet)), Math.min(sheet, 9), shakeOf(sheet, n));
    }

    int cell(int sheet, int i, int j, int n) {
        int[][] cells = sheet(sheet, n);
        return cells == null || !in(i, 0, 15) || !in(j, 0, 15) ? -2 : cells[i][j];
    }

    int area(int sheet, int colour, int n) {
        int[][] cells = sheet(sheet, n);
        if (cells == null || !in(colour, -1, 7)) {
            return NONE;
        }
        int area = 0;
        for (int[] column : cells) {
            for (int cell : column) {
                area += cell == colour ? 1 : 0;
            }
        }
        return area;
    }

    private static List<Integer> pieces(int[][] cells) {
        List<Integer> sizes = new ArrayList<>();
        int[][] left = new int[16][];
        for (int i = 0; i < 16; i++) {
            left[i] = cells[i].clone();
        }
        for (int i = 0; i < 16; i++) {
            for (int j = 0; j < 16; j++) {
                if (left[i][j] != NONE) {
                    sizes.add(eat(left, i, j, left[i][j]));
                }
            }
        }
        return sizes;
    }

    private static int eat(int[][] left, int i, int j, int colour) {
        if (!in(i, 0, 15) || !in(j, 0, 15) || left[i][j] != colour) {
            return 0;
        }
        left[i][j] = NONE;
        return 1 + eat(left, i + 1, j, colour) + eat(left, i - 1, j, colour)
                + eat(left, i, j + 1, colour) + eat(left, i, j - 1, colour);
    }

    int pieces(int sheet, int n) {
        int[][] cells = sheet(sheet, n);
        return cells == null ? NONE : pieces(cells).size();
    }

    int largest(int sheet, int n) {
        int[][] cells = sheet(sheet, n);
        return cells == null ? NONE : pieces(cells).stream().mapToInt(s -> s).max().orElse(0);
    }

    private static int edge(int[][] one, int[][] other, int shift) {
        int unlike = 0;
        for (int j = 0; j < 16; j++) {
            if (in(j + shift, 0, 15) && one[15][j] != other[0][j + shift]) {
                unlike++;
            }
        }
        return unlike;
    }

    int edge(int one, int other, int shift, int n) {
        int[][] first = sheet(one, n);
        int[][] second = sheet(other, n);
        return first == null || second == null || !in(shift, -15, 15) ? NONE : edge(first, second, shift);
    }

    int match(int one, int other, int n) {
        int[][] first = sheet(one, n);
        int[][] second = sheet(other, n);
        if (first == null || second == null) {
            return -100;
        }
        int best = -15;
        for (int s = -14; s <= 15; s++) {
            int cross = edge(first, second, s) * (16 - Math.abs(best))
                    - edge(first, second, best) * (16 - Math.abs(s));
            if (cross < 0 || cross == 0 && Math.abs(s) < Math.abs(best)) {
                best = s;
            }
        }
        return best;
    }

    private static int unlike(int[][] one, int[][] other) {
        int unlike = 0;
        for (int i = 0; i < 16; i++) {
            for (int j = 0; j < 16; j++) {
                unlike += one[i][j] != other[i][j] ? 1 : 0;
            }
        }
        return unlike;
    }

    int unlike(int one, int other, int n) {
        int[][] first = sheet(one, n);
        int[][] second = sheet(other, n);
        return first == null || second == null ? NONE : unlike(first, second);
    }

    // ---- made

    private int[] best(int sheet, int n) {
        int[][] cells = sheet(sheet, n);
        int[] best = null;
        for (int p = 0; p < book.patterns.size(); p++) {
            int needs = parameters(p);
            for (int a = 0; a < 4; a++) {
                for (int b = 0; b < 4; b++) {
                    if (a > 0 && needs < 1 || b > 0 && needs < 2) {
                        continue;
                    }
                    try {
                        List<int[]> strokes = book.perform(p, a, b, 60);
                        int off = unlike(cells, lay(strokes, Math.min(9, sheet), shakeOf(sheet, n)));
                        if (best == null || off < best[1]) {
                            best = new int[] {16 * p + 4 * a + b, off};
                        }
                    } catch (TextModel.Break broken) {
                        continue;
                    }
                }
            }
        }
        return best;
    }

    int made(int sheet, int n) {
        if (sheet(sheet, n) == null) {
            return NONE;
        }
        int[] best = best(sheet, n);
        return best == null ? -2 : best[0];
    }

    int off(int sheet, int n) {
        if (sheet(sheet, n) == null) {
            return NONE;
        }
        int[] best = best(sheet, n);
        return best == null ? -2 : best[1];
    }

    int row(int sheet, int d, int n) {
        int[][] cells = sheet(sheet, n);
        if (cells == null || d < 0) {
            return NONE;
        }
        int shake = shakeOf(sheet, n);
        for (int length = 1; length <= 3; length++) {
            if (row(cells, Math.min(sheet, 9), shake, d, length, new ArrayList<>(), new ArrayList<>(), 0)) {
                return length;
            }
        }
        return -2;
    }

    private boolean row(int[][] cells, int tire, int shake, int d, int more, List<Integer> row, List<int[]> strokes,
            int deeds) {
        if (more == 0) {
            if (unlike(cells, lay(strokes, tire, shake)) > d) {
                return false;
            }
            lastRow.clear();
            lastRow.addAll(row);
            return true;
        }
        for (int p = 0; p < book.patterns.size(); p++) {
            if (parameters(p) > 0) {
                continue;
            }
            List<int[]> longer = new ArrayList<>(strokes);
            try {
                longer.addAll(book.perform(p, 0, 0, 60 - strokes.size()));
            } catch (TextModel.Break broken) {
                continue;
            }
            List<Integer> longerRow = new ArrayList<>(row);
            longerRow.add(p);
            if (deeds + book.deeds <= 2000
                    && row(cells, tire, shake, d, more - 1, longerRow, longer, deeds + book.deeds)) {
                return true;
            }
        }
        return false;
    }

    int rowed(int i) {
        return i >= 0 && i < lastRow.size() ? lastRow.get(i) : NONE;
    }

    int count(int what) {
        switch (what) {
            case 0:
                return book.patterns.size();
            case 1:
                return facts.size();
            case 2:
                return floating(facts.size()).size();
            case 3:
                return tape.length();
            default:
                return NONE;
        }
    }
}
