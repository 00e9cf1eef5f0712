/**
 * Two objects that are made alike; one of them gets a call that is to be refused. Then both are asked
 * everything, within the 512 calls that are promised: a refused call has changed nothing if they agree.
 */
final class Twins {
    interface Setup {
        void on(MarbleBath bath);
    }

    interface Call {
        int on(MarbleBath bath);
    }

    private static final int CALLS_MOST = 512;
    private static final int[][] POINTS = {{0, 0}, {512, 512}, {96, 32}, {1023, 1023}, {300, 700}};

    private final Due due;
    private final Setup setup;
    private final int setupCalls;

    /** setupCalls: how many calls the setup makes. */
    Twins(Due due, int setupCalls, Setup setup) {
        this.due = due;
        this.setup = setup;
        this.setupCalls = setupCalls;
    }

    /** The call is answered so, and nothing else is different behind it. */
    void refuses(String name, int answer, Call call) {
        MarbleBath asked = new MarbleBath();
        MarbleBath other = new MarbleBath();
        setup.on(asked);
        setup.on(other);
        due.is(name, call.on(asked), answer);
        compare(name, asked, other);
    }

    private void compare(String name, MarbleBath one, MarbleBath other) {
        Answers first = new Answers(one, CALLS_MOST - setupCalls - 1);
        Answers second = new Answers(other, CALLS_MOST - setupCalls - 1);
        first.askAll();
        second.askAll();
        String unlike = first.unlike(second);
        if (unlike != null) {
            System.out.println(name + " changed something: " + unlike);
        }
        due.is(name + " changed something", unlike == null ? 0 : 1, 0);
    }

    /** What an object answers to every kind of question, as long as there are calls left. */
    private static final class Answers {
        private final MarbleBath bath;
        private final StringBuilder told = new StringBuilder();
        private int left;

        Answers(MarbleBath bath, int left) {
            this.bath = bath;
            this.left = left;
        }

        String unlike(Answers other) {
            String[] mine = told.toString().split(";");
            String[] theirs = other.told.toString().split(";");
            for (int i = 0; i < mine.length && i < theirs.length; i++) {
                if (!mine[i].equals(theirs[i])) {
                    return mine[i] + ", without it " + theirs[i];
                }
            }
            return mine.length == theirs.length ? null : "the number of answers";
        }

        private void add(String name, int answer) {
            told.append(name).append(" = ").append(answer).append(';');
            left--;
        }

        void askAll() {
            askState();
            int facts = bath.count(1);
            left--;
            askMaps(facts);
            askSheets(facts);
            int kept = 60;
            for (int fact = facts; fact >= 0 && left > kept + 8; fact--) {
                askFact(fact, facts);
            }
            change(facts);
            if (left < 0) {
                throw new IllegalStateException("more than " + CALLS_MOST + " calls");
            }
        }

        private void askState() {
            for (int i = 0; i < 4; i++) {
                add("count " + i, bath.count(i));
            }
            add("place", bath.place());
            add("broke", bath.broke());
            add("where", bath.where());
            for (int i = 0; i < 4; i++) {
                add("rowed " + i, bath.rowed(i));
            }
            for (int i = 0; i < 3; i++) {
                add("parameters " + i, bath.parameters(i));
            }
        }

        private void askFact(int fact, int facts) {
            add("kind " + fact, bath.kind(fact));
            add("struck " + fact, bath.struck(fact, facts));
            for (int i = 0; i < 6; i++) {
                add("number " + fact + " " + i, bath.number(fact, i));
            }
        }

        private void askMaps(int facts) {
            for (int[] p : POINTS) {
                String at = " " + p[0] + " " + p[1];
                add("colour" + at, bath.colour(p[0], p[1], facts));
                add("from 0" + at, bath.from(p[0], p[1], facts, 0));
                add("from 1" + at, bath.from(p[0], p[1], facts, 1));
                add("to 1" + at, bath.to(p[0], p[1], facts, 1));
                add("home" + at, bath.home(p[0], p[1], facts));
            }
        }

        private void askSheets(int facts) {
            add("sheets", bath.sheets(facts));
            add("unlike", bath.unlike(0, 1, facts));
            for (int sheet = 0; sheet < 2; sheet++) {
                add("area of " + sheet, bath.area(sheet, -1, facts));
                add("pieces of " + sheet, bath.pieces(sheet, facts));
                add("largest of " + sheet, bath.largest(sheet, facts));
                add("match of " + sheet, bath.match(sheet, 1 - sheet, facts));
                add("made of " + sheet, bath.made(sheet, facts));
                add("off of " + sheet, bath.off(sheet, facts));
                add("cell of " + sheet, bath.cell(sheet, 1, 0, facts));
            }
        }

        /** Calls that change something: they show what lies on the tape and what is free in the log. */
        private void change(int facts) {
            add("row", bath.row(0, 250, facts));
            add("row's first", bath.rowed(0));
            add("run", bath.run(0, 1, 2));
            add("broke by it", bath.broke());
            add("where by it", bath.where());
            add("drop", bath.drop(7, 7, 7, 7));
            add("facts behind it", bath.count(1));
            add("lay", bath.lay(1));
            add("back", bath.back(1));
            add("read", bath.read());
            add("its place", bath.place());
            add("patterns behind it", bath.count(0));
            add("parameters behind it", bath.parameters(0));
            add("run of what was read", bath.run(0, 2, 1));
            add("number of what was run", bath.number(bath.count(1) - 1, 0));
            add("feed", bath.feed(0x70617474, 0x65726e20, 0x7020656e, 0x64202020, 0x20202121));
            add("back of two", bath.back(2));
            add("read anew", bath.read());
            add("patterns anew", bath.count(0));
            left--;
        }
    }
}
