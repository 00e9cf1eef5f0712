import java.util.Map;
import java.util.Random;
import java.util.TreeMap;

/** Colourful sheets, most of them made by rows of told patterns, asked in every way against BathModel. */
public final class SheetsTest {
    private static final int OBJECTS = 200;
    private static final int CALLS = 512;

    private final Random random;
    private final Due due;
    private final String seed;
    private final Map<String, Integer> seen;
    private final MarbleBath bath = new MarbleBath();
    private final BathModel model = new BathModel();
    private int calls;

    private SheetsTest(int seed, Due due, Map<String, Integer> seen) {
        this.random = new Random(seed);
        this.due = due;
        this.seed = "object " + seed + ": ";
        this.seen = seen;
    }

    public static void main(String[] args) {
        Due due = new Due();
        Map<String, Integer> seen = new TreeMap<>();
        for (int seed = 0; seed < OBJECTS; seed++) {
            new SheetsTest(seed, due, seen).all();
        }
        String[] wanted = {"row 1", "row 2", "row 3", "row -2", "made exactly", "made near", "colour some", "colour bare",
            "from some", "from none", "home 0", "home -2", "home far", "pieces many", "match 0", "match below",
            "match above", "sheets beyond nine", "largest many", "edge many", "over the rim"};
        System.out.println("SheetsTest saw " + seen);
        for (String want : wanted) {
            due.is("cases of " + want + " are enough", seen.getOrDefault(want, 0) >= 20 ? 1 : 0, 1);
        }
        due.end("SheetsTest");
    }

    private void is(String call, int got, int want) {
        due.is(seed + call, got, want);
        calls++;
    }

    private void saw(boolean really, String what) {
        if (really) {
            seen.merge(what, 1, Integer::sum);
        }
    }

    private int between(int least, int most) {
        return least + random.nextInt(most - least + 1);
    }

    private void all() {
        boolean gentle = random.nextInt(3) > 0;
        tell(patterns(gentle));
        int rounds = random.nextInt(4) == 0 ? 12 : between(1, 4);
        for (int round = 0; round < rounds; round++) {
            paint(gentle);
            int shake = random.nextBoolean() ? 0 : between(0, 63);
            is("lay(" + shake + ")", bath.lay(shake), model.tell(4, shake));
            if (random.nextInt(4) == 0) {
                int fact = random.nextInt(model.facts.size());
                is("strike(" + fact + ")", bath.strike(fact), model.strike(fact));
            }
        }
        paint(gentle);
        stroke(gentle);
        stroke(gentle);
        while (calls < CALLS - 4) {
            ask();
        }
    }

    private void tell(String text) {
        StringBuilder padded = new StringBuilder(text);
        while (padded.length() % 20 != 0) {
            padded.append(' ');
        }
        for (int i = 0; i < padded.length(); i += 20) {
            int[] w = new int[5];
            for (int k = 0; k < 20; k++) {
                w[k / 4] = w[k / 4] << 8 | padded.charAt(i + k);
            }
            is("feed", bath.feed(w[0], w[1], w[2], w[3], w[4]), model.feed(w));
        }
        is("read of " + text, bath.read(), model.read());
        due.is(seed + text + " is whole", model.faultPlace, -1);
    }

    private String patterns(boolean gentle) {
        StringBuilder text = new StringBuilder();
        int count = between(2, 8);
        for (int p = 0; p < count; p++) {
            int needs = random.nextInt(3) > 0 ? 0 : between(1, 2);
            text.append("pattern p").append(p).append(needs == 0 ? " " : needs == 1 ? "(a) " : "(a, b) ");
            int deeds = between(0, 2);
            for (int i = 0; i < deeds; i++) {
                deed(text, needs, gentle);
            }
            text.append("end ");
        }
        return text.toString();
    }

    private void deed(StringBuilder text, int needs, boolean gentle) {
        String more = needs == 0 ? "" : needs == 2 && random.nextBoolean() ? " + b * 32" : " + a * 64";
        if (random.nextInt(4) > 0) {
            text.append("drop ").append(32 * between(0, 25)).append(more).append(", ").append(32 * between(0, 25))
                    .append(needs == 2 ? " + b * 64" : "").append(", ").append(between(20, 180)).append(", ")
                    .append(needs > 0 && random.nextBoolean() ? "a" : "" + between(0, 3)).append("; ");
        } else {
            int by = gentle ? between(-30, 30) : between(-200, 200);
            text.append("line ").append(random.nextBoolean() ? "x " : "y ").append(between(0, 800)).append(more)
                    .append(", ").append(by < 0 ? "-" : "").append(Math.abs(by)).append(", ")
                    .append(between(1, 200)).append("; ");
        }
    }

    private void paint(boolean gentle) {
        int runs = between(0, 3);
        for (int i = 0; i < runs; i++) {
            int pattern = random.nextInt(model.count(0));
            int a = between(0, 3);
            int b = between(0, 3);
            is("run(" + pattern + ", " + a + ", " + b + ")", bath.run(pattern, a, b), model.run(pattern, a, b));
        }
        int strokes = random.nextInt(3) > 0 ? 0 : between(1, 5);
        for (int i = 0; i < strokes; i++) {
            stroke(gentle);
        }
    }

    private void stroke(boolean gentle) {
        int axis = between(0, 1);
        int by = gentle ? between(-9, 9) : between(-90, 90);
        int half = between(1, 120);
        int choice = random.nextInt(6);
        if (choice == 0) {
            int first = between(0, 300);
            int every = between(20, 200);
            int teeth = between(1, 20);
            is("comb", bath.comb(axis, first, every, teeth, by, half), model.tell(2, axis, first, every, teeth, by, half));
        } else if (choice == 1) {
            int period = between(2, 400);
            is("wave", bath.wave(axis, period, 3 * by), model.tell(3, axis, period, 3 * by));
        } else {
            int x = between(0, 1023);
            int y = between(0, 1023);
            int r = between(10, 250);
            int c = between(0, 4);
            is("drop", bath.drop(x, y, r, c), model.tell(0, x, y, r, c));
        }
    }

    private void ask() {
        int n = random.nextInt(5) > 0 ? model.facts.size() : between(0, model.facts.size());
        int choice = random.nextInt(20);
        if (choice < 6) {
            askPoint(n);
            return;
        }
        int sheets = model.sheets(n);
        saw(sheets > 10, "sheets beyond nine");
        int sheet = between(0, Math.max(0, sheets - 1));
        int other = between(0, Math.max(0, sheets - 1));
        if (choice < 16) {
            askSheet(sheet, other, n);
            return;
        }
        if (choice == 16) {
            int want = model.made(sheet, n);
            is("made(" + sheet + ", " + n + ")", bath.made(sheet, n), want);
            int off = model.off(sheet, n);
            is("off(" + sheet + ", " + n + ")", bath.off(sheet, n), off);
            saw(off == 0, "made exactly");
            saw(off > 0, "made near");
            return;
        }
        int d = random.nextInt(3) > 0 ? 0 : between(0, 40);
        int want = model.row(sheet, d, n);
        is("row(" + sheet + ", " + d + ", " + n + ")", bath.row(sheet, d, n), want);
        saw(true, "row " + want);
        for (int i = 0; i < 3; i++) {
            is("rowed(" + i + ")", bath.rowed(i), model.rowed(i));
        }
    }

    private void askPoint(int n) {
        int x = between(0, 1023);
        int y = between(0, 1023);
        String at = "(" + x + ", " + y + ", " + n;
        int colour = model.colour(x, y, n);
        is("colour" + at + ")", bath.colour(x, y, n), colour);
        saw(colour >= 0, "colour some");
        saw(colour < 0, "colour bare");
        int what = between(0, 2);
        int from = model.from(x, y, n, what);
        is("from" + at + ", " + what + ")", bath.from(x, y, n, what), from);
        saw(from >= 0 && what > 0, "from some");
        saw(from < 0, "from none");
        what = between(0, 1);
        is("to" + at + ", " + what + ")", bath.to(x, y, n, what), model.to(x, y, n, what));
        int home = model.home(x, y, n);
        is("home" + at + ")", bath.home(x, y, n), home);
        saw(home == 0, "home 0");
        saw(home == -2, "home -2");
        saw(home > 1, "home far");
    }

    private void askSheet(int sheet, int other, int n) {
        String both = "(" + sheet + ", " + other + ", ";
        switch (random.nextInt(7)) {
            case 0:
                int j = random.nextBoolean() ? 15 : between(0, 15);
                int i = j == 15 ? 2 * between(0, 7) + 1 : between(0, 15);
                is("cell(" + sheet + ", " + i + ", " + j + ", " + n + ")", bath.cell(sheet, i, j, n),
                        model.cell(sheet, i, j, n));
                saw(i % 2 == 1 && j == 15 && model.cell(sheet, i, 14, n) >= 0, "over the rim");
                return;
            case 1:
                int colour = between(-1, 4);
                is("area(" + sheet + ", " + colour + ", " + n + ")", bath.area(sheet, colour, n),
                        model.area(sheet, colour, n));
                return;
            case 2:
                int pieces = model.pieces(sheet, n);
                is("pieces(" + sheet + ", " + n + ")", bath.pieces(sheet, n), pieces);
                saw(pieces > 3, "pieces many");
                return;
            case 3:
                int largest = model.largest(sheet, n);
                is("largest(" + sheet + ", " + n + ")", bath.largest(sheet, n), largest);
                saw(largest > 9, "largest many");
                return;
            case 4:
                int shift = between(-15, 15);
                int edge = model.edge(sheet, other, shift, n);
                is("edge" + both + shift + ", " + n + ")", bath.edge(sheet, other, shift, n), edge);
                saw(edge > 2, "edge many");
                return;
            case 5:
                int match = model.match(sheet, other, n);
                is("match" + both + n + ")", bath.match(sheet, other, n), match);
                saw(match == 0, "match 0");
                saw(match < 0 && match > -16, "match below");
                saw(match > 0, "match above");
                return;
            default:
                is("unlike" + both + n + ")", bath.unlike(sheet, other, n), model.unlike(sheet, other, n));
        }
    }
}
