import java.util.Random;

/** Calls at random, right ones and wrong ones, against BathModel: every answer is compared. */
public final class CallsTest {
    private static final int OBJECTS = 500;
    private static final int CALLS = 512;
    private static final int[] EDGES = {-1, 0, 1, 1022, 1023, 1024, Integer.MIN_VALUE, Integer.MAX_VALUE, 512, -2, 64};

    private final Random random;
    private final Due due;
    private final String seed;
    private final MarbleBath bath = new MarbleBath();
    private final BathModel model = new BathModel();
    /** How often of a hundred a number is a wrong or an edge one. */
    private final int edgy;
    private final boolean lays;
    private final boolean small;

    private CallsTest(int seed, Due due) {
        this.random = new Random(seed);
        this.due = due;
        this.seed = "object " + seed + ": ";
        this.edgy = random.nextInt(3) == 0 ? 12 : random.nextInt(6) == 0 ? 50 : 2;
        this.lays = random.nextInt(4) == 0;
        this.small = random.nextInt(4) == 0;
    }

    public static void main(String[] args) {
        Due due = new Due();
        for (int seed = 0; seed < OBJECTS; seed++) {
            CallsTest one = new CallsTest(seed, due);
            int left = CALLS;
            while (left > 110) {
                left -= one.call();
            }
        }
        due.end("CallsTest");
    }

    private int call() {
        if (random.nextInt(lays ? 4 : 12) == 0) {
            int shake = number(0, 63);
            is("lay(" + shake + ")", bath.lay(shake), model.tell(4, shake));
            return 1;
        }
        int choice = random.nextInt(100);
        if (choice < 3) {
            return text();
        }
        if (choice < 24) {
            stroke();
        } else if (choice < 28) {
            int fact = fact();
            is("strike(" + fact + ")", bath.strike(fact), model.strike(fact));
        } else if (choice < 33) {
            int pattern = number(0, Math.max(0, model.count(0) - 1));
            int a = number(0, 3);
            int b = number(0, 3);
            is("run(" + pattern + ", " + a + ", " + b + ")", bath.run(pattern, a, b), model.run(pattern, a, b));
            is("broke()", bath.broke(), model.brokeWhy);
            is("where()", bath.where(), model.brokePlace);
            return 3;
        } else if (choice < 45) {
            askLog();
        } else if (choice < 68) {
            askPoint();
        } else if (choice < 94) {
            askSheet();
        } else {
            askMade();
        }
        return 1;
    }

    private void is(String call, int got, int want) {
        due.is(seed + call, got, want);
    }

    private int number(int least, int most) {
        if (random.nextInt(100) < edgy) {
            int choice = random.nextInt(6);
            return choice == 0 ? least - 1 : choice == 1 ? most + 1 : choice == 2 ? least : choice == 3 ? most
                    : choice == 4 ? EDGES[random.nextInt(EDGES.length)] : random.nextInt();
        }
        return least + random.nextInt(most - least + 1);
    }

    private int fact() {
        return number(0, Math.max(0, model.facts.size() - 1));
    }

    private int known() {
        return random.nextInt(3) > 0 ? model.facts.size() : number(0, model.facts.size());
    }

    private void stroke() {
        int axis = number(0, 1);
        int by = small ? number(-40, 40) : number(-300, 300);
        if (random.nextInt(30) == 0) {
            by = number(-1023, 1023);
        }
        int half = number(1, random.nextBoolean() ? 1023 : 60);
        switch (random.nextInt(7)) {
            case 0:
                int at = number(0, 1023);
                is("line(" + axis + ", " + at + ", " + by + ", " + half + ")", bath.line(axis, at, by, half),
                        model.tell(1, axis, at, by, half));
                return;
            case 1:
                int first = number(0, 1023);
                int every = number(1, random.nextBoolean() ? 1023 : 90);
                int teeth = number(1, 20);
                is("comb(" + axis + ", " + first + ", " + every + ", " + teeth + ", " + by + ", " + half + ")",
                        bath.comb(axis, first, every, teeth, by, half),
                        model.tell(2, axis, first, every, teeth, by, half));
                return;
            case 2:
                int period = number(2, 1024);
                is("wave(" + axis + ", " + period + ", " + by + ")", bath.wave(axis, period, by),
                        model.tell(3, axis, period, by));
                return;
            default:
                int x = number(0, 1023);
                int y = number(0, 1023);
                int r = number(1, random.nextInt(5) == 0 ? 512 : 150);
                int c = number(0, random.nextBoolean() ? 7 : 1);
                is("drop(" + x + ", " + y + ", " + r + ", " + c + ")", bath.drop(x, y, r, c),
                        model.tell(0, x, y, r, c));
        }
    }

    private int text() {
        String text = new Texts(new Random(random.nextInt())).text();
        int calls = 0;
        int spare = 0;
        StringBuilder padded = new StringBuilder(text);
        while (padded.length() % 20 != 0) {
            padded.append(' ');
            spare++;
        }
        if (random.nextInt(20) == 0) {
            spare = number(0, 3000);
        }
        for (int i = 0; i < padded.length() && calls < 100; i += 20) {
            int[] w = new int[5];
            for (int k = 0; k < 20; k++) {
                w[k / 4] = w[k / 4] << 8 | padded.charAt(i + k) & 255;
            }
            is("feed", bath.feed(w[0], w[1], w[2], w[3], w[4]), model.feed(w));
            calls++;
        }
        if (random.nextInt(30) == 0) {
            return calls;
        }
        is("back(" + spare + ")", bath.back(spare), model.back(spare));
        is("count(3)", bath.count(3), model.count(3));
        is("read() of " + model.tape, bath.read(), model.read());
        is("place()", bath.place(), model.faultPlace);
        return calls + 4;
    }

    private void askLog() {
        int fact = fact();
        int n = known();
        int i = number(0, 6);
        switch (random.nextInt(6)) {
            case 0:
                is("kind(" + fact + ")", bath.kind(fact), model.kind(fact));
                return;
            case 1:
                is("number(" + fact + ", " + i + ")", bath.number(fact, i), model.number(fact, i));
                return;
            case 2:
                is("struck(" + fact + ", " + n + ")", bath.struck(fact, n), model.struck(fact, n));
                return;
            case 3:
                is("count(" + i + ")", bath.count(i), model.count(i));
                return;
            case 4:
                is("parameters(" + i + ")", bath.parameters(i), model.parameters(i));
                return;
            default:
                is("sheets(" + n + ")", bath.sheets(n), model.sheets(n));
        }
    }

    private void askPoint() {
        int x = number(0, 1023);
        int y = number(0, 1023);
        int n = known();
        int what = number(0, 2);
        String at = "(" + x + ", " + y + ", " + n;
        switch (random.nextInt(4)) {
            case 0:
                is("colour" + at + ")", bath.colour(x, y, n), model.colour(x, y, n));
                return;
            case 1:
                is("from" + at + ", " + what + ")", bath.from(x, y, n, what), model.from(x, y, n, what));
                return;
            case 2:
                is("to" + at + ", " + what + ")", bath.to(x, y, n, what), model.to(x, y, n, what));
                return;
            default:
                is("home" + at + ")", bath.home(x, y, n), model.home(x, y, n));
        }
    }

    private int sheet(int n) {
        return number(0, Math.max(0, model.sheets(n) - 1));
    }

    private void askSheet() {
        int n = known();
        int one = sheet(n);
        int other = sheet(n);
        int i = number(0, 15);
        int j = number(0, 15);
        int shift = number(-15, 15);
        int colour = number(-1, 7);
        String both = "(" + one + ", " + other + ", ";
        switch (random.nextInt(7)) {
            case 0:
                is("cell(" + one + ", " + i + ", " + j + ", " + n + ")", bath.cell(one, i, j, n),
                        model.cell(one, i, j, n));
                return;
            case 1:
                is("area(" + one + ", " + colour + ", " + n + ")", bath.area(one, colour, n),
                        model.area(one, colour, n));
                return;
            case 2:
                is("pieces(" + one + ", " + n + ")", bath.pieces(one, n), model.pieces(one, n));
                return;
            case 3:
                is("largest(" + one + ", " + n + ")", bath.largest(one, n), model.largest(one, n));
                return;
            case 4:
                is("edge" + both + shift + ", " + n + ")", bath.edge(one, other, shift, n),
                        model.edge(one, other, shift, n));
                return;
            case 5:
                is("match" + both + n + ")", bath.match(one, other, n), model.match(one, other, n));
                return;
            default:
                is("unlike" + both + n + ")", bath.unlike(one, other, n), model.unlike(one, other, n));
        }
    }

    private void askMade() {
        int n = known();
        int sheet = sheet(n);
        switch (random.nextInt(4)) {
            case 0:
                is("made(" + sheet + ", " + n + ")", bath.made(sheet, n), model.made(sheet, n));
                return;
            case 1:
                is("off(" + sheet + ", " + n + ")", bath.off(sheet, n), model.off(sheet, n));
                return;
            default:
                int d = number(0, random.nextBoolean() ? 256 : 40);
                is("row(" + sheet + ", " + d + ", " + n + ")", bath.row(sheet, d, n), model.row(sheet, d, n));
                int i = number(0, 3);
                is("rowed(" + i + ")", bath.rowed(i), model.rowed(i));
        }
    }
}
