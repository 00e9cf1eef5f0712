/**
 * "NONE, and nothing happens", "NONE, and nothing comes", "NONE, and nothing goes", "-2, and nothing happens":
 * behind each call that is refused an object answers everything as its twin does that was not asked it. So it
 * is behind questions, right ones and wrong ones.
 */
public final class RefusedTest {
    private static final Due DUE = new Due();
    private static final int MIN = Integer.MIN_VALUE;
    private static final int MAX = Integer.MAX_VALUE;
    /** What lies on the tape in the state of use. */
    private static final String LEFT = "pattern n(u) drop u, 2, 3, 4; end !";
    private static final String TEXT = "pattern p(a, b) drop 32 * a, 32 * b, 30, 1; end pattern q drop 96, 32, 20, 2; end "
            + "pattern r wave x 1, 0; end pattern s drop 1, 1, 1, 1; wave x 1 / 0, 0; end "
            + "pattern t wave x 2, 1; for i = 1 to 2000 end end pattern u(n) for i = 1 to n wave x 2, 1; end end";

    private static final Twins FRESH = new Twins(DUE, 0, m -> { });
    private static final Twins USED = new Twins(DUE, 60, RefusedTest::use);
    private static final Twins FULL_LOG = new Twins(DUE, 160, RefusedTest::fillLog);
    private static final Twins FULL_TAPE = new Twins(DUE, 130, RefusedTest::fillTape);

    public static void main(String[] args) {
        feedsAndBacks();
        strokes();
        fullLog();
        strikes();
        runs();
        questionsOfFacts();
        questionsOfPoints();
        questionsOfSheets();
        questionsOfPatterns();
        rightQuestions();
        readsOfFaults();
        DUE.end("RefusedTest");
    }

    private static void use(MarbleBath m) {
        Due.read(m, TEXT);
        m.drop(96, 32, 20, 2);
        m.line(0, 500, 40, 100);
        m.lay(3);
        m.drop(512, 512, 200, 5);
        m.comb(1, 100, 50, 4, 20, 60);
        m.lay(0);
        m.strike(1);
        m.drop(300, 700, 90, 6);
        m.wave(0, 90, 12);
        m.run(0, 16, 16);
        m.run(3, 0, 0);
        m.row(0, 0, 10);
        Due.read(m, "pattern o end pattern o");
        Due.feed(m, LEFT);
    }

    private static void fillLog(MarbleBath m) {
        use(m);
        for (int i = m.count(1); i < 120; i++) {
            m.wave(1, 300, i - 60);
        }
    }

    private static void fillTape(MarbleBath m) {
        m.drop(512, 512, 200, 5);
        m.lay(9);
        for (int i = 0; i < 99; i++) {
            m.feed(0x20202020, 0x20202020, 0x20202020, 0x20202020, 0x20202020);
        }
        m.feed(0x70617474, 0x65726e20, 0x7020656e, 0x64202020, 0x20202021);
    }

    // promises 2 and 3
    private static void feedsAndBacks() {
        FULL_TAPE.refuses("a feed of 2,020", -1, m -> m.feed(0x41414141, 0, 0, 0, 0));
        for (int less = 1; less < 20; less++) {
            int gone = less;
            Twins nearly = new Twins(DUE, 131, m -> {
                fillTape(m);
                m.back(gone);
            });
            nearly.refuses("a feed of " + (2020 - less), -1, m -> m.feed(0x41414141, 0, 0, 0, 0));
        }
        for (int n : new int[] {-1, -2, 2001, 2002, MIN, MAX}) {
            FULL_TAPE.refuses("back " + n, -1, m -> m.back(n));
            USED.refuses("back " + n, -1, m -> m.back(n));
        }
        USED.refuses("one more than there are", -1, m -> m.back(LEFT.length() + 1));
        USED.refuses("none", LEFT.length(), m -> m.back(0));
        for (int n : new int[] {-1, 1, 2, 20, 2000, MIN, MAX}) {
            FRESH.refuses("back " + n, -1, m -> m.back(n));
        }
    }

    // promises 6 .. 10: each number one below, one above
    private static void strokes() {
        int[][] least = {{0, 0, 1, 0}, {0, 0, -1023, 1}, {0, 0, 1, 1, -1023, 1}, {0, 2, -1023}};
        int[][] greatest = {{1023, 1023, 512, 7}, {1, 1023, 1023, 1023}, {1, 1023, 1023, 20, 1023, 1023}, {1, 1024, 1023}};
        for (int kind = 0; kind < 4; kind++) {
            for (int i = 0; i < least[kind].length; i++) {
                for (int wrong : new int[] {least[kind][i] - 1, greatest[kind][i] + 1, MIN, MAX}) {
                    int[] numbers = least[kind].clone();
                    numbers[i] = wrong;
                    int told = kind;
                    String name = "stroke " + kind + " with " + wrong + " at " + i;
                    USED.refuses(name, -1, m -> BoundsTest.tell(m, told, numbers));
                    FRESH.refuses(name, -1, m -> BoundsTest.tell(m, told, numbers));
                }
            }
        }
        for (int shake : new int[] {-1, 64, MIN, MAX}) {
            USED.refuses("lay " + shake, -1, m -> m.lay(shake));
            FRESH.refuses("lay " + shake, -1, m -> m.lay(shake));
        }
    }

    // "120 are there"
    private static void fullLog() {
        FULL_LOG.refuses("drop", -1, m -> m.drop(5, 5, 5, 5));
        FULL_LOG.refuses("line", -1, m -> m.line(0, 5, 5, 5));
        FULL_LOG.refuses("comb", -1, m -> m.comb(0, 5, 5, 5, 5, 5));
        FULL_LOG.refuses("wave", -1, m -> m.wave(0, 5, 5));
        FULL_LOG.refuses("lay", -1, m -> m.lay(5));
        FULL_LOG.refuses("strike", -1, m -> m.strike(0));
        FULL_LOG.refuses("strike of the last", -1, m -> m.strike(119));
        FULL_LOG.refuses("a wrong drop", -1, m -> m.drop(-1, 5, 5, 5));
        FULL_LOG.refuses("a run of nothing", 0, m -> m.run(5, 0, 0));
    }

    // promise 11
    private static void strikes() {
        for (int fact : new int[] {-1, 6, 10, 11, 119, 120, MIN, MAX}) {
            USED.refuses("strike " + fact, -1, m -> m.strike(fact));
        }
        for (int fact : new int[] {-1, 0, 1, MIN, MAX}) {
            FRESH.refuses("strike " + fact, -1, m -> m.strike(fact));
        }
    }

    // promise 12: what breaks once more breaks alike, so that broke and where are as they were
    private static void runs() {
        for (int pattern : new int[] {-1, 6, 7, 8, MIN, MAX}) {
            USED.refuses("run " + pattern, -1, m -> m.run(pattern, 1, 1));
            FRESH.refuses("run " + pattern, -1, m -> m.run(pattern, 1, 1));
        }
        FRESH.refuses("run 0", -1, m -> m.run(0, 0, 0));
        int[][] broken = {{0, 40, 0}, {0, 0, 32}, {0, -1, 0}, {2, 0, 0}, {3, 0, 0}, {4, 0, 0}, {5, 121, 0}, {5, 111, 0}, {5, MAX, 0}};
        for (int[] run : broken) {
            Twins twins = new Twins(DUE, 61, m -> {
                use(m);
                m.run(run[0], run[1], run[2]);
            });
            twins.refuses("run " + run[0] + " " + run[1] + " " + run[2], -2, m -> m.run(run[0], run[1], run[2]));
        }
        Twins full = new Twins(DUE, 161, m -> {
            fillLog(m);
            m.run(5, 1, 0);
        });
        full.refuses("run of one in a full log", -2, m -> m.run(5, 1, 0));
    }

    // promises 15 .. 18, 35
    private static void questionsOfFacts() {
        for (int i : new int[] {-1, 6, 8, MIN, MAX}) {
            USED.refuses("parameters " + i, -1, m -> m.parameters(i));
        }
        for (int fact : new int[] {-1, 10, 120, MIN, MAX}) {
            USED.refuses("kind " + fact, -1, m -> m.kind(fact));
            USED.refuses("number " + fact, -1, m -> m.number(fact, 0));
            USED.refuses("number 0 " + fact, -1, m -> m.number(0, fact));
            USED.refuses("struck " + fact, -1, m -> m.struck(fact, 10));
            USED.refuses("struck 1 " + fact, fact == 10 ? 1 : -1, m -> m.struck(1, fact));
            USED.refuses("count " + fact, -1, m -> m.count(fact));
        }
    }

    // promises 19 .. 22
    private static void questionsOfPoints() {
        for (int wrong : new int[] {-1, 1024, MIN, MAX}) {
            USED.refuses("colour x " + wrong, -1, m -> m.colour(wrong, 5, 10));
            USED.refuses("colour y " + wrong, -1, m -> m.colour(5, wrong, 10));
            USED.refuses("colour n " + wrong, -1, m -> m.colour(5, 5, wrong));
            USED.refuses("from x " + wrong, -1, m -> m.from(wrong, 5, 10, 1));
            USED.refuses("from y " + wrong, -1, m -> m.from(5, wrong, 10, 1));
            USED.refuses("from n " + wrong, -1, m -> m.from(5, 5, wrong, 1));
            USED.refuses("from what " + wrong, -1, m -> m.from(5, 5, 10, wrong));
            USED.refuses("to x " + wrong, -1, m -> m.to(wrong, 5, 10, 1));
            USED.refuses("to y " + wrong, -1, m -> m.to(5, wrong, 10, 1));
            USED.refuses("to n " + wrong, -1, m -> m.to(5, 5, wrong, 1));
            USED.refuses("to what " + wrong, -1, m -> m.to(5, 5, 10, wrong));
            USED.refuses("home x " + wrong, -1, m -> m.home(wrong, 5, 10));
            USED.refuses("home y " + wrong, -1, m -> m.home(5, wrong, 10));
            USED.refuses("home n " + wrong, -1, m -> m.home(5, 5, wrong));
        }
    }

    // promises 23 .. 30
    private static void questionsOfSheets() {
        for (int wrong : new int[] {-1, 11, 16, MIN, MAX}) {
            USED.refuses("sheets " + wrong, -1, m -> m.sheets(wrong));
            USED.refuses("cell n " + wrong, -2, m -> m.cell(0, 0, 0, wrong));
            USED.refuses("cell sheet " + wrong, -2, m -> m.cell(wrong, 0, 0, 10));
            if (wrong != 11) {
                USED.refuses("cell i " + wrong, -2, m -> m.cell(0, wrong, 0, 10));
                USED.refuses("cell j " + wrong, -2, m -> m.cell(0, 0, wrong, 10));
                USED.refuses("edge shift " + wrong, wrong == -1 ? 0 : -1, m -> m.edge(0, 1, wrong, 10));
            }
            USED.refuses("area sheet " + wrong, -1, m -> m.area(wrong, 0, 10));
            USED.refuses("area n " + wrong, -1, m -> m.area(0, 0, wrong));
            USED.refuses("pieces sheet " + wrong, -1, m -> m.pieces(wrong, 10));
            USED.refuses("pieces n " + wrong, -1, m -> m.pieces(0, wrong));
            USED.refuses("largest sheet " + wrong, -1, m -> m.largest(wrong, 10));
            USED.refuses("largest n " + wrong, -1, m -> m.largest(0, wrong));
            USED.refuses("edge one " + wrong, -1, m -> m.edge(wrong, 0, 0, 10));
            USED.refuses("edge other " + wrong, -1, m -> m.edge(0, wrong, 0, 10));
            USED.refuses("edge n " + wrong, -1, m -> m.edge(0, 0, 0, wrong));
            USED.refuses("match one " + wrong, -100, m -> m.match(wrong, 0, 10));
            USED.refuses("match other " + wrong, -100, m -> m.match(0, wrong, 10));
            USED.refuses("match n " + wrong, -100, m -> m.match(0, 0, wrong));
            USED.refuses("unlike one " + wrong, -1, m -> m.unlike(wrong, 0, 10));
            USED.refuses("unlike other " + wrong, -1, m -> m.unlike(0, wrong, 10));
            USED.refuses("unlike n " + wrong, -1, m -> m.unlike(0, 0, wrong));
        }
        for (int colour : new int[] {-2, 8, MIN, MAX}) {
            USED.refuses("area colour " + colour, -1, m -> m.area(0, colour, 10));
        }
    }

    // promises 31 .. 34
    private static void questionsOfPatterns() {
        for (int wrong : new int[] {-1, 11, 2, MIN, MAX}) {
            USED.refuses("made sheet " + wrong, -1, m -> m.made(wrong, 10));
            USED.refuses("off sheet " + wrong, -1, m -> m.off(wrong, 10));
            USED.refuses("row sheet " + wrong, -1, m -> m.row(wrong, 256, 10));
            USED.refuses("rowed " + wrong, -1, m -> m.rowed(wrong));
            if (wrong != 2) {
                USED.refuses("made n " + wrong, -1, m -> m.made(0, wrong));
                USED.refuses("off n " + wrong, -1, m -> m.off(0, wrong));
                USED.refuses("row n " + wrong, -1, m -> m.row(0, 256, wrong));
            }
        }
        for (int d : new int[] {-1, -2, MIN}) {
            USED.refuses("row d " + d, -1, m -> m.row(0, d, 10));
        }
        USED.refuses("row that is none", -2, m -> m.row(1, 0, 10));
        FRESH.refuses("made", -1, m -> m.made(0, 0));
        FRESH.refuses("row", -1, m -> m.row(0, 0, 0));
        FRESH.refuses("rowed", -1, m -> m.rowed(0));
    }

    /** A question that is answered changes nothing, either. */
    private static void rightQuestions() {
        USED.refuses("place", 23, m -> m.place());
        USED.refuses("broke", 3, m -> m.broke());
        USED.refuses("where", TEXT.indexOf("wave x 1 / 0"), m -> m.where());
        USED.refuses("rowed 0", 1, m -> m.rowed(0));
        USED.refuses("parameters 0", 2, m -> m.parameters(0));
        USED.refuses("kind 9", 0, m -> m.kind(9));
        USED.refuses("number 9 0", 512, m -> m.number(9, 0));
        USED.refuses("struck 1", 1, m -> m.struck(1, 10));
        USED.refuses("colour", 6, m -> m.colour(300, 700, 8));
        USED.refuses("from", 7, m -> m.from(300, 700, 8, 0));
        USED.refuses("to", 372, m -> m.to(300, 700, 8, 0));
        USED.refuses("home", 0, m -> m.home(5, 5, 0));
        USED.refuses("sheets", 2, m -> m.sheets(10));
        USED.refuses("cell", 2, m -> m.cell(0, 1, 0, 10));
        USED.refuses("area", 255, m -> m.area(0, -1, 10));
        USED.refuses("pieces", 1, m -> m.pieces(0, 10));
        USED.refuses("largest", 1, m -> m.largest(0, 10));
        USED.refuses("edge", 0, m -> m.edge(0, 1, 0, 10));
        USED.refuses("match", 0, m -> m.match(0, 1, 10));
        USED.refuses("unlike itself", 0, m -> m.unlike(1, 1, 10));
        USED.refuses("made", 16, m -> m.made(0, 10));
        USED.refuses("off", 0, m -> m.off(0, 10));
        USED.refuses("row", 1, m -> m.row(0, 0, 10));
        USED.refuses("count 0", 6, m -> m.count(0));
        USED.refuses("count 1", 10, m -> m.count(1));
        USED.refuses("count 2", 3, m -> m.count(2));
        USED.refuses("count 3", LEFT.length(), m -> m.count(3));
    }

    // promise 4: "A text with a FAULT changes nothing": of the object but the tape, which is empty then, and place
    private static void readsOfFaults() {
        String[] texts = {"pattern o end pattern o", "pattern a end pattern b ------- end", "pattern o end pattern o end ",
            "pattern o end do p; pattern", "pattern q(a) end pattern o do q; end"};
        for (String text : texts) {
            Twins twins = new Twins(DUE, 70, m -> {
                use(m);
                m.read();
                Due.read(m, "pattern o end pattern o end!");
                Due.read(m, text);
            });
            int fault = Due.read(new MarbleBath(), text);
            DUE.is("it has a fault: " + text, fault != 0 ? 1 : 0, 1);
            twins.refuses("a read of " + text, fault, m -> Due.read(m, text));
        }
    }
}
