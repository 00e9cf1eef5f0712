/**
 * "Terms" IV and V and promises 23 .. 34: each sentence that names a bound, told above its test, with an
 * answer on either side of it.
 */
public final class SheetBoundsTest {
    private static final Due DUE = new Due();
    private static final int MIN = Integer.MIN_VALUE;
    private static final int MAX = Integer.MAX_VALUE;

    public static void main(String[] args) {
        noSuchSheets();
        sheetsNumbered();
        cellsThere();
        places();
        shakenOverTheRim();
        coloursOfAreas();
        pieces();
        hangTogether();
        shifts();
        shiftWay();
        matchTies();
        matchShares();
        unlikes();
        parametersTried();
        bestOfAlike();
        strokesOfMade();
        eightOfSixty();
        deedsOfMade();
        tireOfMade();
        shakeOfMade();
        madeOfNothing();
        fromTheEmptyBath();
        rowsNear();
        rowLengths();
        rowsWithoutParameters();
        strokesOfRows();
        deedsOfRows();
        firstOfRows();
        rowed();
        DUE.end("SheetBoundsTest");
    }

    private static void is(String call, int got, int want) {
        DUE.is(call, got, want);
    }

    private static String times(int count, String part) {
        return part.repeat(count);
    }

    private static void read(MarbleBath m, String text) {
        is("read of " + text, Due.read(m, text), 0);
    }

    /** A drop at the middle of a cell that is not shaken, too small to move the middle of another out of one. */
    private static void paint(MarbleBath m, int i, int j, int c) {
        m.drop(64 * i + 32, 64 * j + 32, 9, c);
    }

    private static MarbleBath painted(int[]... cells) {
        MarbleBath m = new MarbleBath();
        for (int[] cell : cells) {
            paint(m, cell[0], cell[1], cell.length > 2 ? cell[2] : 1);
        }
        m.lay(0);
        return m;
    }

    /** Nine drops that cover all. */
    private static void cover(MarbleBath m, int c) {
        for (int i = 0; i < 9; i++) {
            m.drop(i % 3 * 511, i / 3 * 511, 512, c);
        }
    }

    // "no such ones"; "-2: no such ones"; "-100: no such ones": SHEETS from 0 to one less than there are
    private static void noSuchSheets() {
        MarbleBath m = new MarbleBath();
        read(m, "pattern p end");
        m.lay(0);
        m.lay(0);
        for (int sheet = 0; sheet < 2; sheet++) {
            is("cell of " + sheet, m.cell(sheet, 0, 0, 2), -1);
            is("area of " + sheet, m.area(sheet, -1, 2), 256);
            is("pieces of " + sheet, m.pieces(sheet, 2), 0);
            is("largest of " + sheet, m.largest(sheet, 2), 0);
            is("made of " + sheet, m.made(sheet, 2), 0);
            is("off of " + sheet, m.off(sheet, 2), 0);
            is("row of " + sheet, m.row(sheet, 0, 2), 1);
            is("edge of " + sheet, m.edge(sheet, 1 - sheet, 0, 2), 0);
            is("match of " + sheet, m.match(sheet, 1 - sheet, 2), 0);
            is("unlike of " + sheet, m.unlike(sheet, 1 - sheet, 2), 0);
        }
        for (int sheet : new int[] {-1, -2, 2, 3, 120, MIN, MAX}) {
            is("cell of " + sheet, m.cell(sheet, 0, 0, 2), -2);
            is("area of " + sheet, m.area(sheet, -1, 2), -1);
            is("pieces of " + sheet, m.pieces(sheet, 2), -1);
            is("largest of " + sheet, m.largest(sheet, 2), -1);
            is("made of " + sheet, m.made(sheet, 2), -1);
            is("off of " + sheet, m.off(sheet, 2), -1);
            is("row of " + sheet, m.row(sheet, 256, 2), -1);
            for (int other = 0; other < 2; other++) {
                is("edge of " + sheet, m.edge(sheet, other, 0, 2), -1);
                is("edge with " + sheet, m.edge(other, sheet, 0, 2), -1);
                is("match of " + sheet, m.match(sheet, other, 2), -100);
                is("match with " + sheet, m.match(other, sheet, 2), -100);
                is("unlike of " + sheet, m.unlike(sheet, other, 2), -1);
                is("unlike with " + sheet, m.unlike(other, sheet, 2), -1);
            }
            is("edge of both", m.edge(sheet, sheet, 0, 2), -1);
            is("match of both", m.match(sheet, sheet, 2), -100);
            is("unlike of both", m.unlike(sheet, sheet, 2), -1);
        }
        MarbleBath none = new MarbleBath();
        is("none", none.sheets(0), 0);
        is("no cell", none.cell(0, 0, 0, 0), -2);
        is("no area", none.area(0, -1, 0), -1);
        is("no made", none.made(0, 0), -1);
    }

    // "SHEETS are numbered by LAYS (KNOWN by n) from 0 on"
    private static void sheetsNumbered() {
        MarbleBath m = new MarbleBath();
        for (int c = 0; c < 4; c++) {
            paint(m, c, 0, c);
            m.lay(0);
        }
        is("four", m.sheets(8), 4);
        for (int c = 0; c < 4; c++) {
            is("known by " + 2 * c, m.sheets(2 * c), c);
            is("known by " + (2 * c + 1), m.sheets(2 * c + 1), c);
            is("sheet " + c, m.cell(c, c, 0, 8), c);
            is("it is there once it is laid", m.cell(c, c, 0, 2 * c + 2), c);
            is("and not ahead of it", m.cell(c, c, 0, 2 * c + 1), -2);
        }
        m.strike(3);
        is("three", m.sheets(9), 3);
        is("the first stays", m.cell(0, 0, 0, 9), 0);
        is("the second's is on the next one", m.cell(1, 1, 0, 9), 1);
        is("with its own", m.cell(1, 2, 0, 9), 2);
        is("the last is the third", m.cell(2, 3, 0, 9), 3);
        is("there is no fourth", m.cell(3, 3, 0, 9), -2);
        is("there was", m.cell(3, 3, 0, 8), 3);
        MarbleBath many = new MarbleBath();
        for (int i = 0; i < 120; i++) {
            many.lay(i % 64);
        }
        is("120 sheets", many.sheets(120), 120);
        is("the last one", many.area(119, -1, 120), 256);
        is("none behind it", many.area(120, -1, 120), -1);
    }

    // "a SHEET of 16 by 16 CELLS"; cell: "-2: no such ones"
    private static void cellsThere() {
        MarbleBath m = new MarbleBath();
        cover(m, 5);
        m.lay(0);
        for (int i = -2; i < 18; i++) {
            for (int j : new int[] {-2, -1, 0, 1, 14, 15, 16, 17}) {
                boolean there = i >= 0 && i < 16 && j >= 0 && j < 16;
                is("cell " + i + " " + j, m.cell(0, i, j, 10), there ? 5 : -2);
                is("cell " + j + " " + i, m.cell(0, j, i, 10), there ? 5 : -2);
            }
        }
        for (int far : new int[] {MIN, MAX, 32, 256, -16}) {
            is("cell " + far + " 0", m.cell(0, far, 0, 10), -2);
            is("cell 0 " + far, m.cell(0, 0, far, 10), -2);
        }
    }

    // "CELL i, j has the COLOUR of THE BATH at x = 64 * i + 32, y = 64 * j + 32 and, if i is odd, its SHAKE more"
    private static void places() {
        int[][] beside = {{0, 0}, {1, 0}, {-1, 0}, {0, 1}, {0, -1}};
        for (int shake : new int[] {0, 1, 31, 32, 63}) {
            for (int i = 0; i < 16; i++) {
                for (int j : new int[] {0, 1, 7, 8, 14, 15}) {
                    int y = 64 * j + 32 + (i % 2 == 0 ? 0 : shake);
                    for (int[] off : beside) {
                        if (y + off[1] <= 1023) {
                            MarbleBath m = new MarbleBath();
                            m.drop(64 * i + 32 + off[0], y + off[1], 1, 4);
                            m.lay(shake);
                            boolean at = off[0] == 0 && off[1] == 0;
                            is("one point at cell " + i + " " + j, m.area(0, 4, 2), at ? 1 : 0);
                            is("that cell", m.cell(0, i, j, 2), at ? 4 : -1);
                        }
                    }
                }
            }
        }
    }

    // y above 1023 is no POINT: what is there is BARE. At 31 CELL 1, 15 is at 1023, at 32 it is over the rim.
    private static void shakenOverTheRim() {
        for (int shake = 29; shake < 64; shake++) {
            MarbleBath m = new MarbleBath();
            m.drop(96, 1023, 100, 2);
            m.drop(32, 992, 20, 3);
            m.lay(shake);
            is("cell 1, 15 shaken by " + shake, m.cell(0, 1, 15, 3), shake <= 31 ? 2 : -1);
            is("cell 1, 14 shaken by " + shake, m.cell(0, 1, 14, 3), 1023 - 928 - shake < 100 ? 2 : -1);
            is("cell 0, 15 is not shaken", m.cell(0, 0, 15, 3), 3);
        }
    }

    // "have a COLOUR (NONE: are BARE)"
    private static void coloursOfAreas() {
        MarbleBath m = new MarbleBath();
        for (int c = 0; c < 8; c++) {
            paint(m, 2 * c, 15 - c, c);
        }
        m.lay(0);
        for (int c = 0; c < 8; c++) {
            is("area of " + c, m.area(0, c, 9), 1);
        }
        is("bare ones", m.area(0, -1, 9), 248);
        for (int c : new int[] {-2, -3, 8, 9, MIN, MAX}) {
            is("area of " + c, m.area(0, c, 9), -1);
        }
        for (int told = 0; told < 8; told++) {
            MarbleBath full = new MarbleBath();
            cover(full, told);
            full.lay(0);
            for (int c = -1; c < 8; c++) {
                is("area of " + c + " with all of " + told, full.area(0, c, 10), c == told ? 256 : 0);
            }
        }
    }

    // "The greatest PIECE's CELLS (0 without)"; "(BARE ones are none)"
    private static void pieces() {
        MarbleBath m = new MarbleBath();
        m.lay(0);
        is("bare: none", m.pieces(0, 1), 0);
        is("bare: 0", m.largest(0, 1), 0);
        cover(m, 7);
        m.lay(0);
        int n = m.count(1);
        is("one", m.pieces(1, n), 1);
        is("all, but tired", m.largest(1, n), m.area(1, 7, n));
        MarbleBath full = new MarbleBath();
        cover(full, 0);
        full.lay(0);
        is("one of colour 0", full.pieces(0, 10), 1);
        is("256", full.largest(0, 10), 256);
        MarbleBath one = painted(new int[] {7, 7});
        is("one", one.pieces(0, 2), 1);
        is("of one", one.largest(0, 2), 1);
        // a sheet of one CELL and a bare one behind the full one
        paint(full, 7, 7, 2);
        full.lay(0);
        full.lay(0);
        int last = full.count(1);
        is("256", full.largest(0, last), 256);
        is("1", full.largest(1, last), 1);
        is("1", full.pieces(1, last), 1);
        is("0", full.largest(2, last), 0);
        is("0", full.pieces(2, last), 0);
        is("256 again", full.largest(0, last), 256);
    }

    // "CELLS of one COLOUR .. that hang together by sides"
    private static void hangTogether() {
        check(1, 2, new int[][] {{0, 0}, {0, 1}});
        check(1, 2, new int[][] {{0, 0}, {1, 0}});
        check(2, 1, new int[][] {{0, 0}, {1, 1}});
        check(2, 1, new int[][] {{0, 1}, {1, 0}});
        check(2, 1, new int[][] {{0, 0}, {0, 2}});
        check(2, 1, new int[][] {{0, 0}, {2, 0}});
        check(2, 1, new int[][] {{0, 0}, {0, 1, 2}});
        check(2, 1, new int[][] {{0, 0}, {1, 0, 0}});
        // not around the rim, and the end of one row is not beside the start of the next
        check(2, 1, new int[][] {{0, 5}, {15, 5}});
        check(2, 1, new int[][] {{5, 0}, {5, 15}});
        check(2, 1, new int[][] {{3, 15}, {4, 0}});
        check(2, 1, new int[][] {{15, 3}, {0, 4}});
        check(4, 1, new int[][] {{0, 0}, {0, 15}, {15, 0}, {15, 15}});
        check(1, 4, new int[][] {{14, 14}, {14, 15}, {15, 14}, {15, 15}});
        check(1, 5, new int[][] {{5, 5}, {4, 5}, {6, 5}, {5, 4}, {5, 6}});
        check(4, 1, new int[][] {{4, 5}, {6, 5}, {5, 4}, {5, 6}});
        check(5, 1, new int[][] {{4, 5}, {6, 5}, {5, 4}, {5, 6}, {5, 5, 2}});
        check(2, 3, new int[][] {{0, 0}, {0, 1}, {0, 3}, {0, 4}, {0, 5}});
        check(2, 3, new int[][] {{0, 3}, {0, 4}, {0, 5}, {0, 0}, {0, 1}});
        check(3, 2, new int[][] {{0, 0}, {0, 1}, {0, 2, 3}, {0, 3}, {0, 4}});
        check(1, 8, new int[][] {{3, 3}, {4, 3}, {5, 3}, {3, 4}, {5, 4}, {3, 5}, {4, 5}, {5, 5}});
        // down, along and up again; and the same on its side
        check(1, 7, new int[][] {{0, 5}, {1, 5}, {2, 5}, {2, 6}, {2, 7}, {1, 7}, {0, 7}});
        check(1, 7, new int[][] {{5, 0}, {5, 1}, {5, 2}, {6, 2}, {7, 2}, {7, 1}, {7, 0}});
        check(1, 7, new int[][] {{15, 7}, {14, 7}, {13, 7}, {13, 8}, {13, 9}, {14, 9}, {15, 9}});
        check(1, 7, new int[][] {{0, 7}, {1, 7}, {2, 7}, {2, 6}, {2, 5}, {1, 5}, {0, 5}});
        // a gap of one cell is enough, to every side
        check(2, 5, new int[][] {{0, 5}, {1, 5}, {2, 5}, {2, 6}, {2, 7}, {0, 7}});
        check(2, 2, new int[][] {{0, 5}, {1, 5}, {1, 3}});
        check(2, 2, new int[][] {{0, 5}, {1, 5}, {1, 7}});
        check(2, 2, new int[][] {{0, 5}, {1, 5}, {3, 5}});
    }

    private static void check(int pieces, int largest, int[][] cells) {
        MarbleBath m = painted(cells);
        int n = m.count(1);
        String what = " of " + java.util.Arrays.deepToString(cells);
        is("bare ones" + what, m.area(0, -1, n), 256 - cells.length);
        is("pieces" + what, m.pieces(0, n), pieces);
        is("largest" + what, m.largest(0, n), largest);
    }

    // "a SHIFT s (-15 .. 15)"; "are there both and unlike": 16 less the SHIFT of them are there both
    private static void shifts() {
        MarbleBath m = new MarbleBath();
        m.lay(0);
        m.lay(0);
        m.strike(0);
        m.strike(1);
        cover(m, 3);
        m.lay(0);
        m.lay(0);
        int n = m.count(1);
        for (int s = -17; s <= 17; s++) {
            boolean there = s >= -15 && s <= 15;
            is("all and none by " + s, m.edge(0, 1, s, n), there ? 16 - Math.abs(s) : -1);
            is("none and all by " + s, m.edge(1, 0, s, n), there ? 16 - Math.abs(s) : -1);
            is("all and all by " + s, m.edge(0, 0, s, n), there ? 0 : -1);
            is("none and none by " + s, m.edge(1, 1, s, n), there ? 0 : -1);
        }
        for (int s : new int[] {MIN, MAX, MIN + 1, 31, 32, -32, 256}) {
            is("no such shift " + s, m.edge(0, 1, s, n), -1);
        }
        is("alike wherever", m.match(0, 0, n), 0);
        is("unlike wherever", m.match(0, 1, n), 0);
    }

    // "CELL 15, j of the one and CELL 0, j + s of the other one"
    private static void shiftWay() {
        for (int j = 0; j < 16; j++) {
            for (int k = 0; k < 16; k += 5) {
                MarbleBath m = new MarbleBath();
                paint(m, 15, j, 1);
                paint(m, 0, (j + 3) % 16, 1);
                paint(m, 14, j, 1);
                m.lay(0);
                paint(m, 0, k, 1);
                paint(m, 15, (k + 9) % 16, 1);
                paint(m, 1, k, 1);
                m.lay(0);
                for (int s = -15; s <= 15; s++) {
                    int want = 0;
                    for (int at = 0; at < 16; at++) {
                        if (at + s >= 0 && at + s < 16 && (at == j) != (at + s == k)) {
                            want++;
                        }
                    }
                    is(j + " and " + k + " by " + s, m.edge(0, 1, s, 8), want);
                }
            }
        }
    }

    /** Which j of column 15 of the one and of column 0 of the other are coloured; the match. */
    private static void match(int want, int[] one, int[] other) {
        MarbleBath m = new MarbleBath();
        for (int j : one) {
            paint(m, 15, j, 1);
        }
        m.lay(0);
        for (int j : other) {
            paint(m, 0, j, 1);
        }
        m.lay(0);
        int n = m.count(1);
        String what = java.util.Arrays.toString(one) + " and " + java.util.Arrays.toString(other);
        is("one's of " + what, m.area(0, 1, n), one.length);
        is("other's of " + what, m.area(1, 1, n), other.length);
        is("match of " + what, m.match(0, 1, n), want);
    }

    // "of alike ones the one nearest to 0, of these the one below 0"
    private static void matchTies() {
        match(0, new int[] {}, new int[] {});
        match(0, new int[] {4}, new int[] {4});
        match(1, new int[] {4}, new int[] {5});
        match(-1, new int[] {5}, new int[] {4});
        // 15 is not there by 1, so nothing is unlike by 1
        match(1, new int[] {15}, new int[] {});
        match(-1, new int[] {0}, new int[] {});
        match(-1, new int[] {}, new int[] {15});
        match(1, new int[] {}, new int[] {0});
        // by 1 and by -1 nothing is unlike
        match(-1, new int[] {0}, new int[] {15});
        match(1, new int[] {15}, new int[] {0});
        match(-2, new int[] {1}, new int[] {14});
        match(2, new int[] {14}, new int[] {1});
        match(-8, new int[] {7}, new int[] {});
        match(8, new int[] {8}, new int[] {});
        match(8, new int[] {}, new int[] {7});
        match(-8, new int[] {}, new int[] {8});
        // by 1 they meet, which is nearer to 0 than where neither is there
        match(1, new int[] {7}, new int[] {8});
        match(-1, new int[] {8}, new int[] {7});
    }

    // "the SHIFT by which EDGES .. differ in the least share of the j that are there both (exactly, by cross sums)"
    private static void matchShares() {
        for (int k = 0; k < 16; k++) {
            MarbleBath m = new MarbleBath();
            cover(m, 1);
            m.lay(0);
            m.drop(32, 64 * k + 32, 9, 1);
            m.lay(0);
            int n = m.count(1);
            is("one cell", m.area(1, 1, n), 1);
            // by s one of 16 - s is alike, as long as k - s is there: the farthest are k and k - 15
            int farthest = k > 15 - k ? k : k - 15;
            is("one alike cell at " + k, m.match(0, 1, n), farthest);
            is("its edge", m.edge(0, 1, farthest, n), 15 - Math.abs(farthest));
            is("one nearer", m.edge(0, 1, farthest > 0 ? farthest - 1 : farthest + 1, n), 16 - Math.abs(farthest));
        }
        // 2 of 16 by 0, 1 of 15 by 1 and -1, 1 of 14 by 2 and -2 ..: the least number is not the least share
        MarbleBath both = new MarbleBath();
        cover(both, 1);
        both.lay(0);
        for (int i = 0; i < 18; i++) {
            both.drop(i % 3 * 511, i / 3 * 200, 512, 1);
        }
        both.drop(32, 32, 10, 2);
        both.drop(32, 992, 10, 2);
        both.lay(0);
        int n = both.count(1);
        is("all but two", both.area(1, 1, n), 254);
        is("two", both.area(1, 2, n), 2);
        is("2 of 16", both.edge(0, 1, 0, n), 2);
        is("1 of 15", both.edge(0, 1, 1, n), 1);
        is("1 of 15", both.edge(0, 1, -1, n), 1);
        is("1 of 14", both.edge(0, 1, 2, n), 1);
        is("1 of 1", both.edge(0, 1, 15, n), 1);
        is("1 of 15 is least, and the one below 0 of these", both.match(0, 1, n), -1);
    }

    // "In how many CELLS two SHEETS are unlike": 0 .. 256
    private static void unlikes() {
        MarbleBath m = new MarbleBath();
        cover(m, 1);
        m.lay(0);
        m.lay(0);
        m.drop(32, 32, 9, 1);
        m.lay(0);
        m.drop(32, 32, 9, 2);
        m.lay(0);
        int n = m.count(1);
        is("all", m.unlike(0, 1, n), 256);
        is("all", m.unlike(1, 0, n), 256);
        is("none", m.unlike(0, 0, n), 0);
        is("none", m.unlike(1, 1, n), 0);
        is("all but one", m.unlike(0, 2, n), 255);
        is("one", m.unlike(1, 2, n), 1);
        is("another colour is unlike", m.unlike(2, 3, n), 1);
        is("another colour is unlike", m.unlike(0, 3, n), 256);
    }

    // "parameters are tried as 0 .. 3 each"; "16 times the pattern, and 4 times the first and once the second parameter
    // (0 for those that it has not)"
    private static void parametersTried() {
        for (int p = 0; p < 8; p++) {
            for (int a = 0; a < 5; a++) {
                for (int b = 0; b < 5; b++) {
                    MarbleBath m = painted(new int[] {a, b});
                    StringBuilder text = new StringBuilder();
                    for (int i = 0; i < 8; i++) {
                        text.append("pattern p").append(i);
                        text.append(i == p ? "(a, b) drop 64 * a + 32, 64 * b + 32, 9, 1; end "
                                : "(a) drop 64 * a + 32, 500, 9, 2; end ");
                    }
                    read(m, text.toString());
                    boolean tried = a < 4 && b < 4;
                    is("made of " + p + " " + a + " " + b, tried ? m.made(0, 2) : 16 * p + 4 * a + b, 16 * p + 4 * a + b);
                    is("off of " + p + " " + a + " " + b, m.off(0, 2), tried ? 0 : 1);
                }
            }
        }
        for (int a = 0; a < 5; a++) {
            MarbleBath m = painted(new int[] {a, 2});
            read(m, "pattern n drop 500, 500, 9, 1; end pattern o(a) drop 64 * a + 32, 160, 9, 1; end");
            is("made of one parameter " + a, m.made(0, 2), a < 4 ? 16 + 4 * a : 0);
            is("off of one parameter " + a, m.off(0, 2), a < 4 ? 0 : 1);
        }
        MarbleBath m = painted(new int[] {2, 2});
        read(m, "pattern n end pattern o drop 160, 160, 9, 1; end");
        is("made without parameters", m.made(0, 2), 16);
        is("off without parameters", m.off(0, 2), 0);
    }

    // "of alike ones the least pattern, then the least first, second parameter"
    private static void bestOfAlike() {
        MarbleBath m = painted(new int[] {1, 1});
        read(m, "pattern p(a, b) end pattern q end pattern r(a) end");
        is("the least of all", m.made(0, 2), 0);
        is("one off", m.off(0, 2), 1);
        read(m, "pattern q end pattern p(a, b) if a + b == 3 drop 96, 96, 9, 1; end end "
                + "pattern r(a, b) drop 96, 96, 9, 1; end");
        is("0, 3 ahead of 1, 2 ahead of the next pattern", m.made(0, 2), 16 + 3);
        is("none off", m.off(0, 2), 0);
        read(m, "pattern p(a, b) if 2 <= a and 1 <= b drop 96, 96, 9, 1; end end");
        is("2, 1", m.made(0, 2), 8 + 1);
        read(m, "pattern p(a, b) if 3 <= a and 3 <= b drop 96, 96, 9, 1; end end");
        is("3, 3", m.made(0, 2), 15);
        read(m, "pattern p(a, b) drop 96, 96, 9, a - 1; end");
        is("those that break are left out: 1, 0 is 0, 2, 0 is 1", m.made(0, 2), 8);
        read(m, "pattern p(a, b) wave x a / b, 0; end");
        is("the first that does not break: 2, 1", m.made(0, 2), 8 + 1);
        is("one off", m.off(0, 2), 1);
    }

    // "with 60 STROKES at most"
    private static void strokesOfMade() {
        for (int strokes = 58; strokes < 63; strokes++) {
            MarbleBath m = painted(new int[] {1, 1});
            read(m, "pattern p for i = 2 to " + strokes + " wave x 2, 0; end drop 96, 96, 9, 1; end");
            is("made of " + strokes, m.made(0, 2), strokes <= 60 ? 0 : -2);
            is("off of " + strokes, m.off(0, 2), strokes <= 60 ? 0 : -2);
            is("a run of " + strokes + " is right", m.run(0, 0, 0), strokes);
        }
        MarbleBath m = painted(new int[] {1, 1});
        read(m, "pattern p(a) for i = 1 to 58 + a wave x 2, 0; end if 2 <= a drop 96, 96, 9, 1; end end");
        is("61 with 2, 60 with 1 bare", m.made(0, 2), 0);
        is("one off", m.off(0, 2), 1);
        read(m, "pattern p(a) for i = 1 to 57 + a wave x 2, 0; end if 2 <= a drop 96, 96, 9, 1; end end");
        is("60 with 2", m.made(0, 2), 8);
        is("none off", m.off(0, 2), 0);
        MarbleBath full = painted(new int[] {1, 1});
        for (int i = 0; i < 118; i++) {
            full.wave(0, 2, 0);
        }
        read(full, "pattern p for i = 2 to 60 wave x 2, 0; end drop 96, 96, 9, 1; end");
        is("no run has room", full.run(0, 0, 0), -2);
        is("made has", full.made(0, 120), 0);
        is("and off", full.off(0, 120), 0);
        is("and row", full.row(0, 0, 120), 1);
    }

    /** Each of eight patterns has room for 60 by itself. */
    private static void eightOfSixty() {
        StringBuilder text = new StringBuilder();
        for (int k = 0; k < 8; k++) {
            text.append("pattern p").append(k).append(" for i = 2 to 60 wave x 2, 0; end drop 96, ").append(64 * k + 32)
                    .append(", 9, 1; end ");
        }
        for (int k = 0; k < 8; k++) {
            MarbleBath m = painted(new int[] {1, k});
            read(m, text.toString());
            is("made of " + k, m.made(0, 2), 16 * k);
            is("off of " + k, m.off(0, 2), 0);
            is("row of " + k, m.row(0, 0, 2), 1);
            is("that one", m.rowed(0), k);
        }
    }

    // "the pattern that does not BREAK": 2,000 DEEDS are right
    private static void deedsOfMade() {
        for (int turns = 1996; turns < 2000; turns++) {
            MarbleBath m = painted(new int[] {1, 1});
            read(m, "pattern p for i = 1 to " + turns + " end drop 96, 96, 9, 1; end");
            // 1 + turns + 1
            is("made of " + (turns + 2) + " deeds", m.made(0, 2), turns <= 1998 ? 0 : -2);
            is("off of " + (turns + 2) + " deeds", m.off(0, 2), turns <= 1998 ? 0 : -2);
            is("row of " + (turns + 2) + " deeds", m.row(0, 0, 2), turns <= 1998 ? 1 : -2);
        }
    }

    // "with the SHEET's TIRE (LAYS ahead of it)", "9 at most"
    private static void tireOfMade() {
        for (int lays = 0; lays < 12; lays++) {
            int tenths = 10 - Math.min(lays, 9);
            // R 33 covers the two cells that are 32 from 64, 32, and R 32 none
            int more = (330 + tenths - 1) / tenths;
            int less = more - 1;
            for (int told : new int[] {less, more}) {
                MarbleBath m = new MarbleBath();
                for (int i = 0; i < lays; i++) {
                    m.lay(0);
                }
                m.drop(64, 32, told, 2);
                m.lay(0);
                read(m, "pattern a drop 64, 32, " + less + ", 2; end pattern b drop 64, 32, " + more + ", 2; end");
                int pattern = told == more ? 1 : 0;
                int n = lays + 2;
                is("cells of it behind " + lays, m.area(lays, 2, n), 2 * pattern);
                is("made behind " + lays, m.made(lays, n), 16 * pattern);
                is("none off behind " + lays, m.off(lays, n), 0);
                is("row behind " + lays, m.row(lays, 1, n), 1);
                is("of it behind " + lays, m.rowed(0), pattern);
            }
        }
        // a LAY that is struck out, or behind it, does not tire it
        MarbleBath m = new MarbleBath();
        m.lay(0);
        m.drop(64, 32, 33, 2);
        m.lay(0);
        m.lay(0);
        read(m, "pattern a drop 64, 32, 33, 2; end pattern b drop 64, 32, 37, 2; end");
        is("33 are 29", m.area(1, 2, 4), 0);
        is("by a", m.made(1, 4), 0);
        m.strike(0);
        is("33", m.area(0, 2, 5), 2);
        is("by a", m.made(0, 5), 0);
        is("none off", m.off(0, 5), 0);
    }

    // "and SHAKE"
    private static void shakeOfMade() {
        for (int shake = 0; shake < 64; shake++) {
            MarbleBath m = new MarbleBath();
            m.drop(96, 96 + shake, 1, 3);
            m.lay(shake);
            read(m, "pattern p drop 96, " + (96 + shake - 1) + ", 1, 3; end pattern q drop 96, " + (96 + shake)
                    + ", 1, 3; end pattern r drop 96, " + (96 + shake + 1) + ", 1, 3; end");
            is("one point shaken by " + shake, m.made(0, 2), 16);
            is("none off", m.off(0, 2), 0);
            is("the row of it", m.row(0, 0, 2), 1);
            is("the same", m.rowed(0), 1);
        }
    }

    // "-2: none"
    private static void madeOfNothing() {
        MarbleBath m = painted(new int[] {1, 1});
        is("no patterns", m.made(0, 2), -2);
        is("no patterns", m.off(0, 2), -2);
        is("no patterns", m.row(0, 256, 2), -2);
        read(m, "pattern p wave x 1, 0; end pattern q(a, b) wave x 1 / 0, 0; end");
        is("all break", m.made(0, 2), -2);
        is("all break", m.off(0, 2), -2);
        is("all break", m.row(0, 256, 2), -2);
        read(m, "pattern p end");
        is("one does not", m.made(0, 2), 0);
        is("one off", m.off(0, 2), 1);
        MarbleBath full = new MarbleBath();
        cover(full, 1);
        full.lay(0);
        read(full, "pattern p end");
        is("wholly off is the best", full.made(0, 10), 0);
        is("256", full.off(0, 10), 256);
        is("256 are enough", full.row(0, 256, 10), 1);
        is("255 are not", full.row(0, 255, 10), -2);
    }

    // "from the empty BATH": what floats ahead and what the log tells do not matter
    private static void fromTheEmptyBath() {
        MarbleBath m = new MarbleBath();
        m.drop(96, 96, 9, 1);
        m.lay(0);
        m.line(0, 96, 500, 500);
        m.drop(96, 96, 300, 4);
        read(m, "pattern p drop 96, 96, 9, 1; end");
        is("made", m.made(0, 4), 0);
        is("none off", m.off(0, 4), 0);
        is("row", m.row(0, 0, 4), 1);
        is("what floats is as it was", m.colour(96, 96, 4), 4);
        is("four facts", m.count(1), 4);
        is("two strokes", m.count(2), 2);
    }

    // "the shortest ROW that is at most d CELLS off a SHEET"; "NONE: no such ones, d below 0"
    private static void rowsNear() {
        MarbleBath m = painted(new int[] {1, 1}, new int[] {3, 3, 2}, new int[] {5, 5, 3});
        read(m, "pattern p drop 96, 96, 9, 1; end pattern q drop 224, 224, 9, 2; end");
        is("none of two is at most 0 off", m.row(0, 0, 4), -2);
        is("none yet", m.rowed(0), -1);
        is("two are 1 off", m.row(0, 1, 4), 2);
        is("p, q", 10 * m.rowed(0) + m.rowed(1), 1);
        is("one is 2 off", m.row(0, 2, 4), 1);
        is("p", m.rowed(0), 0);
        for (int d : new int[] {3, 4, 255, 256, 257, MAX}) {
            is("one is at most " + d + " off", m.row(0, d, 4), 1);
        }
        for (int d : new int[] {-1, -2, MIN}) {
            is("d " + d, m.row(0, d, 4), -1);
        }
        is("d -1 and no such sheet", m.row(7, -1, 4), -1);
        is("it is the latest still", m.rowed(0), 0);
    }

    // "1 .. 3 patterns"
    private static void rowLengths() {
        String[] names = {"a", "b", "c", "d"};
        for (int count = 0; count <= 4; count++) {
            MarbleBath m = new MarbleBath();
            StringBuilder text = new StringBuilder();
            for (int i = 0; i < 4; i++) {
                if (i < count) {
                    paint(m, 2 * i, 3, i);
                }
                text.append("pattern ").append(names[i]).append(" drop ").append(128 * i + 32).append(", 224, 9, ").append(i)
                        .append("; end ");
            }
            m.lay(0);
            read(m, text + "pattern e end");
            int n = m.count(1);
            is("exactly " + count, m.row(0, 0, n), count == 0 ? 1 : count == 4 ? -2 : count);
            is("one off of " + count, m.row(0, 1, n), count <= 2 ? 1 : count - 1);
            for (int i = 0; i < 3 && count == 4; i++) {
                is("the first three", m.rowed(i), i);
            }
        }
    }

    // "patterns without parameters"
    private static void rowsWithoutParameters() {
        MarbleBath m = painted(new int[] {1, 1});
        read(m, "pattern p(a) drop 96, 96, 9, 1; end pattern q(a, b) drop 96, 96, 9, 1; end");
        is("both have some", m.row(0, 256, 2), -2);
        is("made does not mind", m.made(0, 2), 0);
        read(m, "pattern p(a) drop 96, 96, 9, 1; end pattern q(a, b) drop 96, 96, 9, 1; end pattern r do p(1); end");
        is("r has none", m.row(0, 0, 2), 1);
        is("r", m.rowed(0), 2);
        is("alone", m.rowed(1), -1);
    }

    // "(60 STROKES .. together)"
    private static void strokesOfRows() {
        for (int more = -1; more <= 1; more++) {
            MarbleBath m = painted(new int[] {1, 1}, new int[] {3, 3}, new int[] {5, 5});
            read(m, row("p", 96, 19) + row("q", 224, 19) + row("r", 352, 19 + more));
            is("20 + 20 + " + (20 + more), m.row(0, 0, 4), more <= 0 ? 3 : -2);
            read(m, row("p", 96, 19 + more) + row("q", 224, 19) + row("r", 352, 19));
            is((20 + more) + " + 20 + 20", m.row(0, 0, 4), more <= 0 ? 3 : -2);
            read(m, row("p", 96, 58) + row("q", 224, more) + row("r", 352, 0));
            is("59 + " + (1 + Math.max(0, more)) + " + 1", m.row(0, 1, 4), 2);
            MarbleBath two = painted(new int[] {1, 1}, new int[] {3, 3});
            read(two, row("p", 96, 29) + row("q", 224, 29 + more));
            is("30 + " + (30 + more), two.row(0, 0, 3), more <= 0 ? 2 : -2);
            read(two, row("p", 96, 58) + row("q", 224, more));
            is("59 + 1 + " + more, two.row(0, 0, 3), more <= 0 ? 2 : -2);
            MarbleBath one = painted(new int[] {1, 1});
            read(one, row("p", 96, 59 + more));
            is("one of " + (60 + more), one.row(0, 0, 2), more <= 0 ? 1 : -2);
        }
    }

    /** A pattern of one drop at x, x behind so many strokes. */
    private static String row(String name, int at, int waves) {
        return "pattern " + name + " for i = 1 to " + Math.max(0, waves) + " wave x 2, 0; end drop " + at + ", " + at + ", 9, 1; end ";
    }

    // "(.. 2,000 DEEDS together)"
    private static void deedsOfRows() {
        for (int more = -1; more <= 1; more++) {
            MarbleBath m = painted(new int[] {1, 1}, new int[] {3, 3}, new int[] {5, 5});
            // 1 + turns + 1 each: 667 + 667 + 666
            read(m, turns("p", 96, 665) + turns("q", 224, 665) + turns("r", 352, 664 + more));
            is("667 + 667 + " + (666 + more), m.row(0, 0, 4), more <= 0 ? 3 : -2);
            read(m, turns("p", 96, 664 + more) + turns("q", 224, 665) + turns("r", 352, 665));
            is((666 + more) + " + 667 + 667", m.row(0, 0, 4), more <= 0 ? 3 : -2);
            MarbleBath two = painted(new int[] {1, 1}, new int[] {3, 3});
            read(two, turns("p", 96, 998) + turns("q", 224, 998 + more));
            is("1000 + " + (1000 + more), two.row(0, 0, 3), more <= 0 ? 2 : -2);
            MarbleBath one = painted(new int[] {1, 1});
            read(one, turns("p", 96, 1998 + more));
            is("one of " + (2000 + more), one.row(0, 0, 2), more <= 0 ? 1 : -2);
        }
    }

    private static String turns(String name, int at, int turns) {
        return "pattern " + name + " for i = 1 to " + turns + " end drop " + at + ", " + at + ", 9, 1; end ";
    }

    // "the first of the shortest ones (by its first pattern, then the next)"
    private static void firstOfRows() {
        MarbleBath m = painted(new int[] {1, 1}, new int[] {3, 3, 2}, new int[] {5, 5, 3});
        String a = " drop 96, 96, 9, 1; end ";
        String b = " drop 224, 224, 9, 2; end ";
        String c = " drop 352, 352, 9, 3; end ";
        read(m, "pattern p" + a + "pattern q" + b + "pattern r" + c);
        is("three", m.row(0, 0, 4), 3);
        is("0 1 2 of six orders", 100 * m.rowed(0) + 10 * m.rowed(1) + m.rowed(2), 12);
        read(m, "pattern o end pattern p" + c + "pattern q" + b + "pattern r" + a);
        is("three", m.row(0, 0, 4), 3);
        is("1 2 3", 100 * m.rowed(0) + 10 * m.rowed(1) + m.rowed(2), 123);
        read(m, "pattern p" + a + "pattern q" + a + "pattern r" + b + "pattern s" + b + "pattern t" + c + "pattern u" + c);
        is("three", m.row(0, 0, 4), 3);
        is("0 2 4", 100 * m.rowed(0) + 10 * m.rowed(1) + m.rowed(2), 24);
        read(m, "pattern p" + a + "pattern q drop 96, 96, 9, 1; drop 224, 224, 9, 2;" + c + "pattern r" + b + "pattern s" + c);
        is("one is shorter", m.row(0, 0, 4), 1);
        is("q", m.rowed(0), 1);
        read(m, "pattern p" + a + "pattern q" + b + "pattern r" + c + "pattern s drop 96, 96, 9, 1; drop 224, 224, 9, 2; end");
        is("two are shorter", m.row(0, 0, 4), 2);
        is("r s ahead of s r", 10 * m.rowed(0) + m.rowed(1), 23);
        MarbleBath same = new MarbleBath();
        same.drop(96, 96, 9, 1);
        same.line(0, 96, 32, 500);
        same.line(0, 96, 32, 500);
        same.lay(0);
        read(same, "pattern l line x 96, 32, 500; end pattern d drop 96, 96, 9, 1; end");
        is("d l l: a pattern twice", same.row(0, 0, 4), 3);
        is("1 0 0", 100 * same.rowed(0) + 10 * same.rowed(1) + same.rowed(2), 100);
        is("at the next cell", same.cell(0, 2, 1, 4), 1);
    }

    // "The i-th pattern of the latest row() that was above 0 ..; NONE: not so many."
    private static void rowed() {
        MarbleBath m = painted(new int[] {1, 1}, new int[] {3, 3, 2}, new int[] {5, 5, 3});
        for (int i = -1; i < 4; i++) {
            is("none yet", m.rowed(i), -1);
        }
        String text = "pattern p drop 96, 96, 9, 1; end pattern q drop 224, 224, 9, 2; end pattern r drop 352, 352, 9, 3; end";
        read(m, text);
        for (int d = 0; d < 3; d++) {
            is("row at most " + d, m.row(0, d, 4), 3 - d);
            for (int i : new int[] {-1, -2, MIN, MAX, 3, 4}) {
                is("rowed " + i, m.rowed(i), -1);
            }
            for (int i = 0; i < 3; i++) {
                is("rowed " + i, m.rowed(i), i < 3 - d ? i : -1);
            }
        }
        is("row", m.row(0, 1, 4), 2);
        is("one that is none", m.row(1, 0, 4), -1);
        is("one with d below 0", m.row(0, -1, 4), -1);
        is("one of no n", m.row(0, 0, 5), -1);
        read(m, "pattern p end");
        is("one of none", m.row(0, 0, 4), -2);
        is("the latest above 0", m.rowed(1), 1);
        is("had two", m.rowed(2), -1);
        is("the next above 0", m.row(0, 3, 4), 1);
        is("has p", m.rowed(0), 0);
        is("and no more", m.rowed(1), -1);
    }
}
