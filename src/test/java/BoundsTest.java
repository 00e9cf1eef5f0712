/**
 * "Terms" I and II and promises 1, 6 .. 11, 16 .. 22 and 35: each sentence that names a bound, told above
 * its test, with an answer on either side of it.
 */
public final class BoundsTest {
    private static final Due DUE = new Due();
    private static final int LEAST_INT = Integer.MIN_VALUE;
    private static final int GREATEST_INT = Integer.MAX_VALUE;

    private static final int DROP = 0;
    private static final int LINE = 1;
    private static final int COMB = 2;
    private static final int WAVE = 3;
    private static final String[] KINDS = {"drop", "line", "comb", "wave"};
    private static final int[][] LEAST = {{0, 0, 1, 0}, {0, 0, -1023, 1}, {0, 0, 1, 1, -1023, 1}, {0, 2, -1023}};
    private static final int[][] GREATEST =
            {{1023, 1023, 512, 7}, {1, 1023, 1023, 1023}, {1, 1023, 1023, 20, 1023, 1023}, {1, 1024, 1023}};
    private static final int[][] MIDDLE = {{500, 500, 100, 3}, {1, 500, 30, 40}, {0, 500, 60, 5, 70, 80}, {1, 90, 100}};

    public static void main(String[] args) {
        emptyObject();
        numbersOfStrokes();
        points();
        coloursSeen();
        factNumbers();
        factNumbersI();
        fullLog();
        strikes();
        known();
        tire();
        tireCountsKnownLays();
        behindTheLastLay();
        roots();
        dropBack();
        dropForth();
        dropsAtTheRim();
        linesHalvings();
        linesAtTheRim();
        teeth();
        waves();
        beyondStaysBeyond();
        fromBehindTheDrop();
        homes();
        whats();
        DUE.end("BoundsTest");
    }

    private static void is(String call, int got, int want) {
        DUE.is(call, got, want);
    }

    static int tell(MarbleBath m, int kind, int... n) {
        switch (kind) {
            case DROP:
                return m.drop(n[0], n[1], n[2], n[3]);
            case LINE:
                return m.line(n[0], n[1], n[2], n[3]);
            case COMB:
                return m.comb(n[0], n[1], n[2], n[3], n[4], n[5]);
            default:
                return m.wave(n[0], n[1], n[2]);
        }
    }

    // "An empty LOG, no PATTERNS." "at first all is BARE"
    private static void emptyObject() {
        MarbleBath m = new MarbleBath();
        for (int what = 0; what < 4; what++) {
            is("count of a new object " + what, m.count(what), 0);
        }
        is("kind 0", m.kind(0), -1);
        is("number 0", m.number(0, 0), -1);
        is("struck 0", m.struck(0, 0), -1);
        is("strike 0", m.strike(0), -1);
        is("parameters 0", m.parameters(0), -1);
        is("run 0", m.run(0, 0, 0), -1);
        is("broke", m.broke(), 0);
        is("where", m.where(), -1);
        is("place", m.place(), -1);
        is("rowed 0", m.rowed(0), -1);
        is("sheets", m.sheets(0), 0);
        is("cell", m.cell(0, 0, 0, 0), -2);
        is("match", m.match(0, 0, 0), -100);
        for (int x = 0; x < 1024; x += 93) {
            for (int y = 0; y < 1024; y += 341) {
                is("bare", m.colour(x, y, 0), -1);
                is("of no drop", m.from(x, y, 0, 0), -1);
                is("x of itself", m.from(x, y, 0, 1), x);
                is("y of itself", m.from(x, y, 0, 2), y);
                is("x to itself", m.to(x, y, 0, 0), x);
                is("y to itself", m.to(x, y, 0, 1), y);
                is("home", m.home(x, y, 0), 0);
            }
        }
    }

    // "at a POINT, r 1 .. 512, COLOUR c"; "at 0 .. 1023, by -1023 .. 1023, half 1 .. 1023"; "teeth (1 .. 20)
    // .. first 0 .. 1023, every 1 .. 1023"; "period 2 .. 1024"; "wave .. by -1023 .. 1023"; "axis 0 .. axis 1";
    // "NONE, and nothing happens: .. a number is not as II says"
    private static void numbersOfStrokes() {
        for (int kind = 0; kind < 4; kind++) {
            for (int i = 0; i < MIDDLE[kind].length; i++) {
                bounds(kind, i);
            }
            MarbleBath m = new MarbleBath();
            is(KINDS[kind] + " of least numbers", tell(m, kind, LEAST[kind]), 0);
            is(KINDS[kind] + " of greatest numbers", tell(m, kind, GREATEST[kind]), 1);
            for (int i = 0; i < MIDDLE[kind].length; i++) {
                is("least number " + i, m.number(0, i), LEAST[kind][i]);
                is("greatest number " + i, m.number(1, i), GREATEST[kind][i]);
            }
        }
        for (int shake = 0; shake < 64; shake++) {
            MarbleBath m = new MarbleBath();
            is("lay " + shake, m.lay(shake), 0);
            is("its shake", m.number(0, 0), shake);
        }
        for (int shake : new int[] {-1, 64, 65, LEAST_INT, GREATEST_INT}) {
            MarbleBath m = new MarbleBath();
            is("lay " + shake, m.lay(shake), -1);
            is("no fact", m.count(1), 0);
        }
    }

    private static void bounds(int kind, int i) {
        int[] told = {LEAST[kind][i], LEAST[kind][i] + 1, GREATEST[kind][i] - 1, GREATEST[kind][i]};
        int[] refused = {LEAST[kind][i] - 1, LEAST[kind][i] - 2, GREATEST[kind][i] + 1, GREATEST[kind][i] + 2,
            LEAST_INT, GREATEST_INT};
        for (int value : told) {
            MarbleBath m = new MarbleBath();
            int[] numbers = MIDDLE[kind].clone();
            numbers[i] = value;
            is(KINDS[kind] + " with " + value + " at " + i, tell(m, kind, numbers), 0);
            is("number told", m.number(0, i), value);
        }
        for (int value : refused) {
            MarbleBath m = new MarbleBath();
            int[] numbers = MIDDLE[kind].clone();
            numbers[i] = value;
            is(KINDS[kind] + " with " + value + " at " + i, tell(m, kind, numbers), -1);
            is("no fact", m.count(1), 0);
        }
    }

    // "POINTS x, y, each 0 .. 1023"; "BARE, no such ones"; "NONE: it is lost, no such ones"
    private static void points() {
        int[] inside = {0, 1, 1022, 1023};
        int[] outside = {-1, -2, 1024, 1025, LEAST_INT, GREATEST_INT};
        MarbleBath m = new MarbleBath();
        for (int x = 0; x < 3; x++) {
            for (int y = 0; y < 3; y++) {
                m.drop(x == 2 ? 1023 : 512 * x, y == 2 ? 1023 : 512 * y, 400, 6);
            }
        }
        for (int a : inside) {
            for (int b : inside) {
                is("colour at " + a + " " + b, m.colour(a, b, 9), 6);
                is("x from none at " + a + " " + b, m.from(a, b, 0, 1), a);
                is("y to at " + a + " " + b, m.to(a, b, 0, 1), b);
                is("home at " + a + " " + b, m.home(a, b, 0), 0);
            }
            for (int b : outside) {
                is("colour at " + a + " " + b, m.colour(a, b, 9), -1);
                is("colour at " + b + " " + a, m.colour(b, a, 9), -1);
                is("from at " + a + " " + b, m.from(a, b, 9, 0), -1);
                is("from at " + b + " " + a, m.from(b, a, 0, 2), -1);
                is("from at " + a + " " + b, m.from(a, b, 0, 1), -1);
                is("to at " + a + " " + b, m.to(a, b, 0, 0), -1);
                is("to at " + b + " " + a, m.to(b, a, 0, 1), -1);
                is("home at " + a + " " + b, m.home(a, b, 0), -1);
                is("home at " + b + " " + a, m.home(b, a, 0), -1);
            }
        }
    }

    // "COLOURS are 0 .. 7"
    private static void coloursSeen() {
        MarbleBath m = new MarbleBath();
        for (int c = 0; c < 8; c++) {
            m.drop(100 * c + 50, 300, 20, c);
        }
        for (int c = 0; c < 8; c++) {
            is("colour " + c, m.colour(100 * c + 50, 300, 8), c);
            is("its fact", m.from(100 * c + 50, 300, 8, 0), c);
        }
    }

    // "FACTS, numbered from 0 on"; kind: "NONE: there is none such"
    private static void factNumbers() {
        MarbleBath m = new MarbleBath();
        int[] facts = {m.drop(1, 2, 3, 4), m.line(0, 1, 2, 3), m.comb(1, 1, 2, 3, 4, 5), m.wave(0, 2, 3), m.lay(9),
            m.strike(4)};
        for (int fact = 0; fact < 6; fact++) {
            is("fact " + fact, facts[fact], fact);
            is("kind of " + fact, m.kind(fact), fact);
        }
        for (int fact : new int[] {-1, -2, 6, 7, 119, 120, LEAST_INT, GREATEST_INT}) {
            is("kind of " + fact, m.kind(fact), -1);
            is("number of " + fact, m.number(fact, 0), -1);
            is("struck " + fact, m.struck(fact, 6), -1);
            is("strike of " + fact, m.strike(fact), -1);
        }
        is("nothing came of it", m.count(1), 6);
    }

    // "Number i of a FACT .. NONE: there are none such (by may be NONE, too)"
    private static void factNumbersI() {
        int[][] told = {{4, 5, 6, 7}, {1, 5, -1, 7}, {1, 4, 5, 6, -1, 8}, {1, 5, -1}, {63}, {0}};
        MarbleBath m = new MarbleBath();
        for (int kind = 0; kind < 4; kind++) {
            is("told", tell(m, kind, told[kind]), kind);
        }
        m.lay(63);
        m.strike(0);
        for (int fact = 0; fact < 6; fact++) {
            int[] want = told[fact];
            for (int i = 0; i < want.length; i++) {
                is("number " + i + " of " + fact, m.number(fact, i), want[i]);
            }
            for (int i : new int[] {-1, want.length, want.length + 1, 6, 7, LEAST_INT, GREATEST_INT}) {
                is("number " + i + " of " + fact, m.number(fact, i), -1);
            }
        }
    }

    // "120 at most": of STROKES, LAYS and STRIKES together
    private static void fullLog() {
        for (int last = 0; last < 7; last++) {
            MarbleBath m = new MarbleBath();
            Due.read(m, "pattern p drop 1, 1, 1, 1; end");
            for (int i = 0; i < 119; i++) {
                int fact = i % 3 == 0 ? m.drop(i, i, 5, 1) : i % 3 == 1 ? m.lay(i % 64) : m.strike(i - 1);
                is("fact", fact, i);
            }
            is("the 120th", one(m, last), last == 6 ? 1 : 119);
            is("120 facts", m.count(1), 120);
            for (int kind = 0; kind < 7; kind++) {
                is("a 121st " + kind, one(m, kind), kind == 6 ? -2 : -1);
            }
            is("120 facts still", m.count(1), 120);
            is("the last is there", m.kind(119), last == 6 ? 0 : last);
            is("none behind it", m.kind(120), -1);
            is("known by 120", m.struck(119, 120), 0);
            is("no 121", m.struck(119, 121), -1);
            is("wrong numbers are refused, too", m.drop(-1, 0, 1, 1), -1);
        }
        for (int room = 0; room < 4; room++) {
            MarbleBath m = new MarbleBath();
            Due.read(m, "pattern p(n) for i = 1 to n wave x 2, 1; end end");
            is("run of " + (120 - room), m.run(0, 120 - room, 0), 120 - room);
            is("run of one too many", m.run(0, room + 1, 0), -2);
            is("no room", m.broke(), 4);
            is("nothing happened", m.count(1), 120 - room);
            is("run of just as many", m.run(0, room, 0), room);
            is("120", m.count(1), 120);
            is("all of them float", m.count(2), 120);
        }
        MarbleBath m = new MarbleBath();
        Due.read(m, "pattern p(n) for i = 1 to n wave x 2, 1; end end");
        is("121 at once", m.run(0, 121, 0), -2);
        is("no room", m.broke(), 4);
        is("none is there", m.count(1), 0);
        is("120 at once", m.run(0, 120, 0), 120);
    }

    private static int one(MarbleBath m, int kind) {
        return kind < 4 ? tell(m, kind, MIDDLE[kind]) : kind == 4 ? m.lay(5) : kind == 5 ? m.strike(0) : m.run(0, 0, 0);
    }

    // "STRIKES of an earlier FACT that is a STROKE or a LAY"; "NONE, and nothing happens: .. no such FACT, a STRIKE"
    private static void strikes() {
        MarbleBath m = new MarbleBath();
        for (int kind = 0; kind < 4; kind++) {
            tell(m, kind, MIDDLE[kind]);
        }
        m.lay(0);
        is("itself, which is none yet", m.strike(5), -1);
        is("below 0", m.strike(-1), -1);
        is("nothing came", m.count(1), 5);
        is("the first fact", m.strike(0), 5);
        is("the latest stroke or lay", m.strike(4), 6);
        is("the latest fact is a strike", m.strike(6), -1);
        is("an earlier strike", m.strike(5), -1);
        is("the next one", m.strike(7), -1);
        is("nothing came", m.count(1), 7);
        for (int kind = 1; kind < 4; kind++) {
            is("a " + KINDS[kind], m.strike(kind), 6 + kind);
        }
        is("one that is struck out already", m.strike(0), 10);
        is("eleven facts", m.count(1), 11);
        for (int fact = 0; fact < 11; fact++) {
            is("struck " + fact, m.struck(fact, 11), fact < 5 ? 1 : 0);
        }
        for (int n = 0; n <= 11; n++) {
            is("0 by " + n, m.struck(0, n), n == 0 ? -1 : n < 6 ? 0 : 1);
            is("4 by " + n, m.struck(4, n), n < 5 ? -1 : n < 7 ? 0 : 1);
            is("3 by " + n, m.struck(3, n), n < 4 ? -1 : n < 10 ? 0 : 1);
            is("5, a strike, by " + n, m.struck(5, n), n < 6 ? -1 : 0);
        }
    }

    // "As KNOWN by n: the first n FACTS"; "no such n"
    private static void known() {
        MarbleBath m = new MarbleBath();
        Due.read(m, "pattern p end");
        m.drop(32, 32, 20, 2);
        m.lay(0);
        m.lay(0);
        m.drop(700, 700, 20, 3);
        m.line(0, 300, 40, 30);
        m.strike(0);
        for (int n : new int[] {-1, -2, 7, 8, 120, 121, LEAST_INT, GREATEST_INT}) {
            String by = " by " + n;
            is("struck" + by, m.struck(0, n), -1);
            is("colour" + by, m.colour(700, 700, n), -1);
            is("from" + by, m.from(700, 700, n, 0), -1);
            is("from x" + by, m.from(50, 50, n, 1), -1);
            is("to" + by, m.to(50, 50, n, 0), -1);
            is("home" + by, m.home(50, 50, n), -1);
            is("sheets" + by, m.sheets(n), -1);
            is("cell" + by, m.cell(0, 0, 0, n), -2);
            is("area" + by, m.area(0, -1, n), -1);
            is("pieces" + by, m.pieces(0, n), -1);
            is("largest" + by, m.largest(0, n), -1);
            is("edge" + by, m.edge(0, 1, 0, n), -1);
            is("match" + by, m.match(0, 1, n), -100);
            is("unlike" + by, m.unlike(0, 1, n), -1);
            is("made" + by, m.made(0, n), -1);
            is("off" + by, m.off(0, n), -1);
            is("row" + by, m.row(0, 256, n), -1);
        }
        is("rowed: none yet", m.rowed(0), -1);
        int[] colours = {-1, 2, -1, -1, -1, -1, -1};
        int[] later = {-1, -1, -1, -1, 3, 3, 3};
        int[] sheets = {0, 0, 1, 2, 2, 2, 2};
        int[] ones = {-2, -2, 2, 2, 2, 2, -1};
        int[] drags = {50, 50, 50, 50, 50, 90, 90};
        for (int n = 0; n <= 6; n++) {
            is("colour by " + n, m.colour(32, 32, n), colours[n]);
            is("the later one's by " + n, m.colour(700, 700, n), later[n]);
            is("sheets by " + n, m.sheets(n), sheets[n]);
            is("cell by " + n, m.cell(0, 0, 0, n), ones[n]);
            is("to by " + n, m.to(50, 300, n, 0), n == 1 ? 50 : drags[n]);
        }
        is("known by all", m.from(700, 700, 6, 0), 3);
        is("home by all", m.home(50, 300, 6), 0);
        is("area by all", m.area(0, -1, 6), 256);
        is("pieces by all", m.pieces(0, 6), 0);
        is("edge by all", m.edge(0, 1, 0, 6), 0);
        is("match by all", m.match(0, 1, 6), 0);
        is("unlike by all", m.unlike(0, 1, 6), 0);
        is("made by all", m.made(0, 6), 0);
        is("off by 5", m.off(0, 5), 1);
        is("row by all", m.row(0, 0, 6), 1);
    }

    // "TIRE of a STROKE: how many LAYS .. are ahead of it, 9 at most"; "R: r * (10 - TIRE) / 10, at least 1"
    private static void tire() {
        int[] hundreds = {100, 90, 80, 70, 60, 50, 40, 30, 20, 10, 10, 10};
        int[] nineteens = {19, 17, 15, 13, 11, 9, 7, 5, 3, 1, 1, 1};
        int[] nines = {9, 8, 7, 6, 5, 4, 3, 2, 1, 1, 1, 1};
        int[] twos = {2, 1, 1, 1, 1, 1, 1, 1, 1, 1, 1, 1};
        int[] greatest = {512, 460, 409, 358, 307, 256, 204, 153, 102, 51, 51, 51};
        for (int lays = 0; lays < 12; lays++) {
            tired(lays, 100, hundreds[lays]);
            tired(lays, 19, nineteens[lays]);
            tired(lays, 9, nines[lays]);
            tired(lays, 2, twos[lays]);
            tired(lays, 1, 1);
            tired(lays, 10, 10 - Math.min(9, lays));
            tired(lays, 20, 20 - 2 * Math.min(9, lays));
            tired(lays, 512, greatest[lays]);
        }
    }

    private static void tired(int lays, int r, int want) {
        MarbleBath m = new MarbleBath();
        for (int i = 0; i < lays; i++) {
            m.lay(0);
        }
        m.drop(300, 400, r, 5);
        int n = m.count(1);
        String tired = " of " + r + " behind " + lays + " lays";
        is("the farthest point" + tired, m.colour(300 + want - 1, 400, n), 5);
        is("one more" + tired, m.colour(300 + want, 400, n), -1);
        is("it came from the middle" + tired, m.from(300 + want, 400, n, 1), 300);
        is("the middle goes" + tired, m.to(300, 400, n, 0), 300 + want);
    }

    // "LAYS (KNOWN by n) .. ahead of it": those behind it and those that are struck out do not tire it
    private static void tireCountsKnownLays() {
        MarbleBath m = new MarbleBath();
        m.lay(0);
        m.drop(300, 300, 100, 5);
        is("by one", m.to(300, 300, 2, 0), 390);
        m.strike(0);
        is("it was known ahead", m.to(300, 300, 2, 0), 390);
        is("by none", m.to(300, 300, 3, 0), 400);
        m.lay(0);
        m.drop(300, 300, 100, 6);
        is("by the second one alone", m.to(300, 300, 5, 0), 390);
        is("the one laid is not tired by its own lay", m.area(0, 5, 5), area(300, 300, 100));
        m.strike(3);
        is("both by none", m.to(300, 300, 6, 0), 341 + 100);
        MarbleBath ten = new MarbleBath();
        for (int i = 0; i < 10; i++) {
            ten.lay(0);
        }
        ten.drop(300, 300, 100, 5);
        is("ten are nine", ten.to(300, 300, 11, 0), 310);
        ten.strike(0);
        is("nine", ten.to(300, 300, 12, 0), 310);
        ten.strike(9);
        is("eight", ten.to(300, 300, 13, 0), 320);
    }

    /** Middles of cells within a drop, with no shake. */
    private static int area(int x, int y, int radius) {
        int area = 0;
        for (int i = 0; i < 16; i++) {
            for (int j = 0; j < 16; j++) {
                int u = 64 * i + 32 - x;
                int v = 64 * j + 32 - y;
                area += u * u + v * v < radius * radius ? 1 : 0;
            }
        }
        return area;
    }

    // "THE BATH as KNOWN by n: all STROKES behind the last LAY, in their order"
    private static void behindTheLastLay() {
        MarbleBath m = new MarbleBath();
        m.drop(300, 300, 50, 1);
        m.drop(300, 300, 20, 2);
        is("the later one lies above", m.colour(300, 300, 2), 2);
        is("two", m.count(2), 2);
        m.lay(0);
        is("none", m.count(2), 0);
        is("none floats", m.colour(300, 300, 3), -1);
        m.lay(0);
        is("none still", m.count(2), 0);
        m.wave(0, 2, 0);
        is("one", m.count(2), 1);
        m.strike(3);
        is("behind the first lay one", m.count(2), 1);
        m.strike(2);
        is("behind no lay three", m.count(2), 3);
        is("they float", m.colour(300, 300, 7), 2);
        is("laid as known ahead", m.colour(300, 300, 6), -1);
        m.strike(1);
        is("two", m.count(2), 2);
        is("the earlier one", m.colour(300, 300, 8), 1);
        m.strike(4);
        m.strike(0);
        is("none is left", m.count(2), 0);
    }

    // "ROOT of a number: the greatest whole one whose square is not above it." Along x ROOT(D) is |u| itself.
    private static void roots() {
        int[] radii = {1, 2, 3, 4, 5, 7, 8, 12, 60, 255, 256, 511, 512};
        for (int r : radii) {
            for (int part = 0; part < 8; part++) {
                MarbleBath m = new MarbleBath();
                m.drop(0, 0, r, 1);
                for (int u = 128 * part; u < 128 * part + 128; u++) {
                    int back = u < r ? u : root(u * u - r * r);
                    int forth = u == 0 ? r : root(u * u + r * r);
                    is("back of " + u + " by " + r, m.from(u, 0, 1, 1), back);
                    is("forth of " + u + " by " + r, m.to(u, 0, 1, 0), forth > 1023 ? -1 : forth);
                }
            }
        }
    }

    private static int root(int square) {
        int root = 0;
        while ((root + 1) * (root + 1) <= square) {
            root++;
        }
        return root;
    }

    // "with D below R * R the POINT is of the drop; else it came from x + u * ROOT(D - R * R) / ROOT(D), .."
    private static void dropBack() {
        MarbleBath m = new MarbleBath();
        m.drop(500, 500, 5, 2);
        int[][] at25 = {{5, 0}, {0, 5}, {3, 4}, {4, 3}};
        int[][] below = {{4, 2}, {2, 4}, {4, 0}, {0, 4}, {3, 3}, {0, 0}, {1, 0}, {0, 1}};
        for (int sign = 0; sign < 4; sign++) {
            int left = sign % 2 == 0 ? 1 : -1;
            int up = sign < 2 ? 1 : -1;
            for (int[] p : at25) {
                int x = 500 + left * p[0];
                int y = 500 + up * p[1];
                is("D 25 is not of it", m.from(x, y, 1, 0), -1);
                is("D 25 is bare", m.colour(x, y, 1), -1);
                is("D 25 came from the middle: x", m.from(x, y, 1, 1), 500);
                is("D 25 came from the middle: y", m.from(x, y, 1, 2), 500);
            }
            for (int[] p : below) {
                int x = 500 + left * p[0];
                int y = 500 + up * p[1];
                is("below 25 is of it", m.from(x, y, 1, 0), 0);
                is("below 25 has its colour", m.colour(x, y, 1), 2);
                is("below 25 stays: x", m.from(x, y, 1, 1), x);
                is("below 25 stays: y", m.from(x, y, 1, 2), y);
            }
        }
        MarbleBath three = new MarbleBath();
        three.drop(500, 500, 3, 2);
        is("D 8, one below 9, is of it", three.colour(502, 498, 1), 2);
        is("D 9 is not", three.colour(503, 500, 1), -1);
        is("D 10, one above, is not", three.colour(501, 503, 1), -1);
        // D 10: ROOT(10 - 9) = 1, ROOT(10) = 3: 1 * 1 / 3, 3 * 1 / 3
        is("D 10 x, towards 0", three.from(501, 503, 1, 1), 500);
        is("D 10 y", three.from(501, 503, 1, 2), 501);
        is("D 10 x, towards 0 from below", three.from(499, 497, 1, 1), 500);
        is("D 10 y from below", three.from(499, 497, 1, 2), 499);
        // u -7, v 4: D 65, ROOT(56) = 7, ROOT(65) = 8: -49 / 8 = -6, 28 / 8 = 3
        is("-49 / 8 is -6", three.from(493, 504, 1, 1), 494);
        is("28 / 8 is 3", three.from(493, 504, 1, 2), 503);
    }

    // "FORTH: to x + u * ROOT(D + R * R) / ROOT(D), y likewise with v; from D 0 to x + R, y"
    private static void dropForth() {
        MarbleBath m = new MarbleBath();
        m.drop(500, 500, 5, 2);
        is("D 0: x", m.to(500, 500, 1, 0), 505);
        is("D 0: y", m.to(500, 500, 1, 1), 500);
        // D 1: ROOT(26) = 5
        is("D 1: x", m.to(499, 500, 1, 0), 495);
        is("D 1: y stays", m.to(499, 500, 1, 1), 500);
        is("D 1: x stays", m.to(500, 499, 1, 0), 500);
        is("D 1: y", m.to(500, 499, 1, 1), 495);
        is("D 1: y the other way", m.to(500, 501, 1, 1), 505);
        // u -2, v 3: D 13, ROOT(38) = 6, ROOT(13) = 3: -12 / 3, 18 / 3
        is("D 13: x", m.to(498, 503, 1, 0), 496);
        is("D 13: y", m.to(498, 503, 1, 1), 506);
        // u -5, v 3: D 34, ROOT(59) = 7, ROOT(34) = 5: -35 / 5, 21 / 5 = 4
        is("D 34: x", m.to(495, 503, 1, 0), 493);
        is("D 34: y", m.to(495, 503, 1, 1), 504);
        // u -3, v -5: 7 * -3 / 5 = -4, 7 * -5 / 5
        is("-21 / 5 is -4", m.to(497, 495, 1, 0), 496);
        is("-35 / 5 is -7", m.to(497, 495, 1, 1), 493);
    }

    // "FORTH out of it, it is lost", by drops: at 0 and at 1023 it is still there
    private static void dropsAtTheRim() {
        for (int r : new int[] {1, 2, 100, 511, 512}) {
            MarbleBath right = new MarbleBath();
            right.drop(1023 - r, 500, r, 1);
            is("D 0 to 1023", right.to(1023 - r, 500, 1, 0), 1023);
            is("y of it", right.to(1023 - r, 500, 1, 1), 500);
            MarbleBath beyond = new MarbleBath();
            beyond.drop(1024 - r, 500, r, 1);
            is("D 0 to 1024", beyond.to(1024 - r, 500, 1, 0), -1);
            is("y of it", beyond.to(1024 - r, 500, 1, 1), -1);
            is("no way home", beyond.home(1024 - r, 500, 1), -2);
            MarbleBath left = new MarbleBath();
            left.drop(r, r, r, 1);
            // u -1: ROOT(1 + R * R) is R
            is("to x 0", left.to(r - 1, r, 1, 0), 0);
            is("to y 0", left.to(r, r - 1, 1, 1), 0);
            MarbleBath over = new MarbleBath();
            over.drop(r - 1, r - 1, r, 1);
            if (r > 1) {
                is("to x -1", over.to(r - 2, r - 1, 1, 0), -1);
                is("to y -1", over.to(r - 1, r - 2, 1, 1), -1);
                is("its x is lost, too", over.to(r - 1, r - 2, 1, 0), -1);
            }
            MarbleBath down = new MarbleBath();
            down.drop(500, 1023 - r, r, 1);
            is("to y 1023", down.to(500, 1024 - r, 1, 1), 1023);
            MarbleBath out = new MarbleBath();
            out.drop(500, 1024 - r, r, 1);
            is("to y 1024", r == 1 ? -1 : out.to(500, 1025 - r, 1, 1), -1);
        }
    }

    // "by is halved t / half times, each time rounded towards 0 (0 from 11 times on)"
    private static void linesHalvings() {
        int[] halves = {1023, 511, 255, 127, 63, 31, 15, 7, 3, 1, 0, 0, 0};
        for (int axis = 0; axis < 2; axis++) {
            for (int half : new int[] {1, 2, 7, 40}) {
                MarbleBath more = new MarbleBath();
                more.line(axis, 500, 1023, half);
                MarbleBath less = new MarbleBath();
                less.line(axis, 500, -1023, half);
                for (int times = 0; times < halves.length; times++) {
                    int first = half * times;
                    int last = first + half - 1;
                    for (int t : new int[] {first, last, -first, -last}) {
                        if (500 + t < 0) {
                            continue;
                        }
                        String what = t + " off, half " + half;
                        is(what, goes(more, axis, 0, 500 + t), halves[times]);
                        is(what + ", less", goes(less, axis, 1023, 500 + t), 1023 - halves[times]);
                        is(what + ", back", came(more, axis, 1023, 500 + t), 1023 - halves[times]);
                        is(what + ", less, back", came(less, axis, 0, 500 + t), halves[times]);
                    }
                }
            }
            MarbleBath far = new MarbleBath();
            far.line(axis, 0, 1023, 1);
            for (int t = 10; t < 1024; t++) {
                if (t < 100 || t > 1000 || (t & t - 1) == 0) {
                    is("0 by " + t + " halvings", goes(far, axis, 400, t), 400);
                }
            }
            MarbleBath whole = new MarbleBath();
            whole.line(axis, 0, 1023, 1023);
            is("1022 off: none", goes(whole, axis, 0, 1022), 1023);
            is("1023 off: one", goes(whole, axis, 0, 1023), 511);
            MarbleBath odd = new MarbleBath();
            odd.line(axis, 500, -5, 1);
            is("-5", goes(odd, axis, 300, 500), 295);
            is("-5 / 2", goes(odd, axis, 300, 501), 298);
            is("-5 / 2 on the other side", goes(odd, axis, 300, 499), 298);
            is("-2 / 2", goes(odd, axis, 300, 502), 299);
            is("-1 / 2", goes(odd, axis, 300, 503), 300);
        }
    }

    private static int goes(MarbleBath m, int axis, int along, int other) {
        int n = m.count(1);
        int x = axis == 0 ? along : other;
        int y = axis == 0 ? other : along;
        int stays = m.to(x, y, n, 1 - axis);
        return stays == other || stays == -1 ? m.to(x, y, n, axis) : -7;
    }

    private static int came(MarbleBath m, int axis, int along, int other) {
        int n = m.count(1);
        int x = axis == 0 ? along : other;
        int y = axis == 0 ? other : along;
        int stays = m.from(x, y, n, 2 - axis);
        return stays == other || stays == -1 ? m.from(x, y, n, 1 + axis) : -7;
    }

    // "BACK out of 0 .. 1023 the POINT came from beyond the rim: it is BARE. FORTH out of it, it is lost."
    private static void linesAtTheRim() {
        for (int axis = 0; axis < 2; axis++) {
            for (int by : new int[] {1, 100, 1022, 1023}) {
                MarbleBath m = new MarbleBath();
                m.line(axis, 500, by, 1);
                is("back to 0", came(m, axis, by, 500), 0);
                is("back to -1", came(m, axis, by - 1, 500), -1);
                is("forth to 1023", goes(m, axis, 1023 - by, 500), 1023);
                is("forth to 1024", goes(m, axis, 1024 - by, 500), -1);
                MarbleBath less = new MarbleBath();
                less.line(axis, 500, -by, 1);
                is("back to 1023", came(less, axis, 1023 - by, 500), 1023);
                is("back to 1024", came(less, axis, 1024 - by, 500), -1);
                is("forth to 0", goes(less, axis, by, 500), 0);
                is("forth to -1", goes(less, axis, by - 1, 500), -1);
                int x = axis == 0 ? 1024 - by : 500;
                int y = axis == 0 ? 500 : 1024 - by;
                is("lost", m.home(x, y, 1), -2);
                is("its other coordinate is lost, too", m.to(x, y, 1, 1 - axis), -1);
                is("from beyond, so is its other coordinate", less.from(x, y, 1, 2 - axis), -1);
                is("from beyond it is of no drop", less.from(x, y, 1, 0), -1);
                is("from beyond it is bare", less.colour(x, y, 1), -1);
            }
        }
    }

    // "teeth (1 .. 20) lines, at first, first + every, .. (.. teeth may be beyond the BATH): DRAG is the sum of theirs"
    private static void teeth() {
        for (int axis = 0; axis < 2; axis++) {
            for (int teeth = 1; teeth <= 20; teeth++) {
                MarbleBath m = new MarbleBath();
                m.comb(axis, 3, 20, teeth, 8, 1);
                is("the first of " + teeth, goes(m, axis, 100, 3), 108);
                is("the last of " + teeth, goes(m, axis, 100, 3 + 20 * (teeth - 1)), 108);
                is("behind the last of " + teeth, goes(m, axis, 100, 3 + 20 * teeth), 100);
                is("ahead of the first", goes(m, axis, 100, 0), 101);
                is("between", goes(m, axis, 100, 13), 100);
                MarbleBath dense = new MarbleBath();
                dense.comb(axis, 400, 1, teeth, 10, 1023);
                is("all of " + teeth, goes(dense, axis, 100, 410), 100 + 10 * teeth);
                is("all of " + teeth + ", back", came(dense, axis, 900, 410), 900 - 10 * teeth);
            }
            MarbleBath beyond = new MarbleBath();
            beyond.comb(axis, 1000, 50, 20, 512, 10);
            // teeth at 1000, 1050, 1100 ..: 1020 is 20, 30, 80, 130 off: 2, 3, 8, 13 halvings
            is("teeth beyond", goes(beyond, axis, 0, 1020), 128 + 64 + 2);
            // 1023 is 23, 27, 77, 127 off: 2, 2, 7, 12 halvings
            is("teeth beyond", goes(beyond, axis, 0, 1023), 128 + 128 + 4);
            is("at the first one: 0, 5, 10 halvings", goes(beyond, axis, 0, 1000), 512 + 16);
            MarbleBath far = new MarbleBath();
            far.comb(axis, 1023, 1023, 20, 1023, 1023);
            // 1023 + 1023 * k - 1023: k halvings each: 1023 + 511 + 255 + 127 + 63 + 31 + 15 + 7 + 3 + 1
            is("20 teeth of 1023 back", came(far, axis, 1023, 0), 1023 - 511 - 255 - 127 - 63 - 31 - 15 - 7 - 3 - 1);
            is("at the first tooth it is too much", came(far, axis, 1023, 1023), -1);
            is("at the first tooth forth", goes(far, axis, 0, 1023), -1);
            MarbleBath least = new MarbleBath();
            least.comb(axis, 0, 1, 20, -1023, 1023);
            is("20 times -1023 is out at once", goes(least, axis, 1023, 10), -1);
            MarbleBath rounded = new MarbleBath();
            rounded.comb(axis, 500, 4, 3, -5, 2);
            // each tooth is rounded by itself: 502 is 2, 2, 6 off: -2 - 2 - 0
            is("each is rounded by itself", goes(rounded, axis, 300, 502), 296);
        }
    }

    // "DRAG: by * k / period, where k is how far its other coordinate is from the nearest whole times period"
    private static void waves() {
        int[] periods = {2, 3, 4, 5, 100, 511, 512, 513, 1022, 1023, 1024};
        for (int axis = 0; axis < 2; axis++) {
            for (int period : periods) {
                for (int by : new int[] {-1023, -7, -1, 0, 1, 9, 1023}) {
                    MarbleBath m = new MarbleBath();
                    is("wave " + period, m.wave(axis, period, by), 0);
                    for (int other : new int[] {0, 1, 2, 3, period / 2 - 1, period / 2, period / 2 + 1, (period + 1) / 2,
                        period - 1, period, period + 1, 2 * period, 2 * period - 1, 1022, 1023}) {
                        if (other <= 1023) {
                            int along = by < 0 ? 1023 : 0;
                            int drag = by * nearest(other, period) / period;
                            is("wave " + period + " by " + by + " at " + other, goes(m, axis, along, other), along + drag);
                            is("back " + period + " by " + by + " at " + other, came(m, axis, 1023 - along, other),
                                    1023 - along - drag);
                        }
                    }
                }
            }
        }
        MarbleBath m = new MarbleBath();
        m.wave(0, 1024, 1023);
        is("512 is the farthest", m.to(0, 512, 1, 0), 511);
        is("511", m.to(0, 511, 1, 0), 510);
        is("513 is nearer to 1024, which is beyond", m.to(0, 513, 1, 0), 510);
        is("1023 is one from 1024", m.to(0, 1023, 1, 0), 0);
        MarbleBath two = new MarbleBath();
        two.wave(1, 2, -7);
        is("-7 * 1 / 2 is -3", two.to(1, 500, 1, 1), 497);
        is("at a whole time 0", two.to(2, 500, 1, 1), 500);
    }

    private static int nearest(int other, int period) {
        int least = other;
        for (int times = 0; times * period <= 2048; times++) {
            least = Math.min(least, Math.abs(other - times * period));
        }
        return least;
    }

    // what is beyond the rim once is not brought back by other strokes; a later drop lies above all that
    private static void beyondStaysBeyond() {
        MarbleBath m = new MarbleBath();
        m.line(0, 500, 100, 1);
        m.line(0, 500, -100, 1);
        is("forth to 1023 and back", m.to(923, 500, 2, 0), 923);
        is("forth to 1024: lost", m.to(924, 500, 2, 0), -1);
        is("back to 1023 and on", m.from(923, 500, 2, 1), 923);
        is("back to 1024: beyond", m.from(924, 500, 2, 1), -1);
        is("and no home", m.home(924, 500, 2), -2);
        is("home", m.home(923, 500, 2), 0);
        MarbleBath y = new MarbleBath();
        y.line(1, 500, -100, 1);
        y.line(1, 500, 100, 1);
        is("forth to 0 and back", y.to(500, 100, 2, 1), 100);
        is("forth to -1: lost", y.to(500, 99, 2, 1), -1);
        is("back to 0 and on", y.from(500, 100, 2, 2), 100);
        is("back to -1: beyond", y.from(500, 99, 2, 2), -1);
        MarbleBath d = new MarbleBath();
        d.drop(1023, 500, 100, 4);
        d.line(0, 500, -50, 1);
        is("1023 is of the drop", d.colour(973, 500, 2), 4);
        is("1024 is beyond, though near the drop", d.colour(974, 500, 2), -1);
        is("of no drop", d.from(974, 500, 2, 0), -1);
        is("no x", d.from(974, 500, 2, 1), -1);
        d.drop(974, 500, 5, 3);
        is("a later drop lies above", d.colour(974, 500, 3), 3);
        is("its own place", d.from(974, 500, 3, 1), 974);
        is("and covers four more", d.colour(978, 500, 3), 3);
        is("but not the fifth, which came from 974", d.colour(979, 500, 3), -1);
    }

    // "1, 2: its x, y BACK through all STROKES behind that drop (of none: all STROKES; NONE: from beyond the rim)"
    private static void fromBehindTheDrop() {
        MarbleBath m = new MarbleBath();
        m.line(0, 500, 10, 1);
        m.drop(600, 500, 50, 4);
        m.line(0, 500, 20, 1);
        m.line(1, 620, 30, 1);
        is("of the drop", m.from(620, 530, 4, 0), 1);
        is("x through two", m.from(620, 530, 4, 1), 600);
        is("y through two", m.from(620, 530, 4, 2), 500);
        is("of none", m.from(300, 500, 4, 0), -1);
        // 300 - 20 = 280: u -320, D 102400 - 2500 = 99900, root 316: 600 - 316 = 284, - 10
        is("x through all", m.from(300, 500, 4, 1), 274);
        is("y through all", m.from(300, 500, 4, 2), 500);
        is("the farthest of the drop", m.from(620 + 49, 500, 4, 0), 1);
        is("one more", m.from(620 + 50, 500, 4, 0), -1);
        is("which came from its middle and on", m.from(620 + 50, 500, 4, 1), 590);
    }

    // "x and y that differ, together; -2: it is lost, or comes to be of a drop, or from beyond the rim"
    private static void homes() {
        MarbleBath m = new MarbleBath();
        m.drop(500, 500, 100, 3);
        // u -1: D 1, ROOT(10001) = 100: to 400; back ROOT(0) = 0: to 500
        is("one", m.home(499, 500, 1), 1);
        is("itself", m.home(500, 500, 1), 0);
        // v -10: ROOT(10100) = 100: to 400; back to 500
        is("ten", m.home(500, 490, 1), 10);
        // u 30, v 40: ROOT(12500) = 111, 50: to 566, 588: D 12100, ROOT(2100) = 45 by 110: 66 * 45 / 110 = 27, 88 * 45 / 110 = 36
        is("both add up", m.home(530, 540, 1), 7);
        // u 1, v 1: ROOT(10002) = 100 by 1: to 600, 600: D 20000: 100 * 100 / 141 = 70
        is("farther than it was", m.home(501, 501, 1), 69 + 69);
        // u 3, v 2: D 13, ROOT(10013) = 100 by 3: to 600, 566: D 14356, ROOT(4356) = 66 by 119: 55, 36
        is("unlike ones", m.home(503, 502, 1), 52 + 34);
        MarbleBath of = new MarbleBath();
        of.drop(500, 500, 6, 3);
        // u 2, v 3: D 13, ROOT(49) = 7 by 3: 14 / 3 = 4, 21 / 3 = 7: D 65
        is("D 65 is not of it: ROOT(29) = 5 by 8: 2, 4", of.home(502, 503, 1), 1);
        // u 1, v 2: D 5, ROOT(41) = 6 by 2: 3, 6: D 45: ROOT(9) = 3 by 6: 1, 3
        is("one more", of.home(501, 502, 1), 1);
        MarbleBath near = new MarbleBath();
        near.drop(500, 500, 17, 3);
        // u 3, v 3: D 18, ROOT(307) = 17 by 4: 12, 12: D 288, one below 289
        is("comes to be of the drop", near.home(503, 503, 1), -2);
        is("on the other side, too", near.home(497, 503, 1), -2);
        // u 5, v 5: D 50, ROOT(339) = 18 by 7: 12, 12
        is("and so does this one", near.home(505, 505, 1), -2);
        // u 0, v 1: ROOT(290) = 17: D 289: ROOT(0): the middle
        is("289 is not of it", near.home(500, 501, 1), 1);
        // u 4, v 4: D 32, ROOT(321) = 17 by 5: 13, 13: D 338, ROOT(49) = 7 by 18: 5, 5
        is("338 is not of it", near.home(504, 504, 1), 2);
        MarbleBath three = new MarbleBath();
        three.drop(500, 500, 3, 3);
        // u 1, v 2: D 5, ROOT(14) = 3 by 2: 1, 3: D 10, one above 9: ROOT(1) = 1 by 3: 0, 1
        is("10 is not of it", three.home(501, 502, 1), 2);
        MarbleBath rim = new MarbleBath();
        rim.line(0, 500, -20, 1023);
        rim.drop(1023, 500, 5, 3);
        // 1003: u -20: ROOT(425) = 20: stays; back ROOT(375) = 19: 1004, which came from 1024
        is("comes to be from beyond the rim", rim.home(1023, 500, 2), -2);
        // 1002: u -21: ROOT(466) = 21: stays; back ROOT(416) = 20: 1003, which came from 1023
        is("comes to be from the rim", rim.home(1022, 500, 2), 1);
        MarbleBath line = new MarbleBath();
        line.drop(500, 500, 40, 3);
        line.line(0, 500, 30, 1);
        // ROOT(41600) = 203: to 703, 733; back to 703: ROOT(39609) = 199
        is("a line changes nothing of it", line.home(700, 500, 2), 1);
    }

    // "what 0 .. 1, 2"; "what 0 x, 1 y"; count: "NONE for others"
    private static void whats() {
        MarbleBath m = new MarbleBath();
        m.drop(500, 400, 100, 3);
        is("from what 0", m.from(550, 450, 1, 0), 0);
        is("from what 1", m.from(550, 450, 1, 1), 550);
        is("from what 2", m.from(550, 450, 1, 2), 450);
        is("to what 0", m.to(500, 400, 1, 0), 600);
        is("to what 1", m.to(500, 400, 1, 1), 400);
        for (int what : new int[] {-1, 3, 4, LEAST_INT, GREATEST_INT}) {
            is("from what " + what, m.from(550, 450, 1, what), -1);
        }
        for (int what : new int[] {-1, 2, 3, LEAST_INT, GREATEST_INT}) {
            is("to what " + what, m.to(500, 400, 1, what), -1);
        }
        m.feed(1, 2, 3, 4, 5);
        is("count 1", m.count(1), 1);
        is("count 2", m.count(2), 1);
        is("count 3", m.count(3), 20);
        for (int what : new int[] {-1, 4, 5, LEAST_INT, GREATEST_INT}) {
            is("count of " + what, m.count(what), -1);
        }
    }
}
