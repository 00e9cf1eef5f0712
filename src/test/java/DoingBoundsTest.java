/**
 * "Terms" III from DOING on, and promises 12 .. 14: each sentence that names a bound, told above its test,
 * with an answer on either side of it.
 */
public final class DoingBoundsTest {
    private static final Due DUE = new Due();
    private static final int MIN = Integer.MIN_VALUE;
    private static final int MAX = Integer.MAX_VALUE;
    private static final int TOO_LONG = 1;
    private static final int UNFIT = 2;
    private static final int BY_ZERO = 3;
    private static final int NO_ROOM = 4;

    public static void main(String[] args) {
        wraps();
        divisions();
        relations();
        order();
        fors();
        forsEvaluateOnce();
        deedsAtMost();
        deedsWithin();
        deedsOfOthers();
        turnsWithin();
        turnsOfAll();
        strokeNumbers();
        byZero();
        noMoreThanIsNeeded();
        lookedAtInThisOrder();
        roomInTheLog();
        nothingHappens();
        brokeAndWhere();
        parametersThatItHasNot();
        givenParameters();
        eightWithinOneAnother();
        manyTexts();
        manyBreaks();
        DUE.end("DoingBoundsTest");
    }

    private static void is(String call, int got, int want) {
        DUE.is(call, got, want);
    }

    private static String times(int count, String part) {
        return part.repeat(count);
    }

    private static MarbleBath reading(String text) {
        MarbleBath m = new MarbleBath();
        is("read of " + text, Due.read(m, text), 0);
        return m;
    }

    /** The pattern breaks so, at the ^ of the text; and nothing is logged. */
    private static void breaks(int why, String marked, int pattern, int a) {
        int place = marked.indexOf('^');
        MarbleBath m = reading(marked.substring(0, place) + marked.substring(place + 1));
        is("run of " + marked + " with " + a, m.run(pattern, a, 0), -2);
        is("why " + marked + " broke", m.broke(), why);
        is("where " + marked + " broke", m.where(), place);
        is("nothing is logged", m.count(1), 0);
    }

    private static void does(int strokes, String text, int pattern, int a) {
        MarbleBath m = reading(text.replace("^", ""));
        is("run of " + text + " with " + a, m.run(pattern, a, 0), strokes);
        is("all are logged", m.count(1), strokes);
        is("none broke", m.broke(), 0);
        is("nowhere", m.where(), -1);
    }

    /** The E, with a for its parameter, is that number and no other one. */
    private static void value(String e, int a, int want) {
        MarbleBath m = reading("pattern p(a, b) if " + e + " == b wave x 2, 1; end end");
        is(e + " of " + a, m.run(0, a, want), 1);
        is(e + " of " + a + " is not one more", m.run(0, a, want + 1), 0);
        is(e + " of " + a + " is not one less", m.run(0, a, want - 1), 0);
    }

    // "Ints of 32 bits that wrap"
    private static void wraps() {
        value("a + 1", MAX, MIN);
        value("a + 1", MAX - 1, MAX);
        value("a - 1", MIN, MAX);
        value("a - 1", MIN + 1, MIN);
        value("-a", MIN, MIN);
        value("-a", MAX, MIN + 1);
        value("0 - a", MIN, MIN);
        value("a * 2", 1 << 30, MIN);
        value("a * 2", (1 << 30) - 1, MAX - 1);
        value("a * a", 46340, 2147395600);
        value("a * a", 46341, -2147479015);
        value("a * a", 65536, 0);
        value("a * a", MAX, 1);
        value("a * -1", MIN, MIN);
        value("a + a", MIN, 0);
        value("9999 * 9999 * 9999", 0, -1027349969);
        value("a * 1000 * 1000 * 1000", 3, -1294967296);
        value("a - 1 + 1", MIN, MIN);
    }

    // "/ rounds towards 0, % is the rest of that"
    private static void divisions() {
        int[][] cases = {{7, 2, 3, 1}, {-7, 2, -3, -1}, {7, -2, -3, 1}, {-7, -2, 3, -1}, {6, 3, 2, 0}, {5, 6, 0, 5},
            {-5, 6, 0, -5}, {5, -6, 0, 5}, {1, 1, 1, 0}, {-1, 1, -1, 0}, {0, 5, 0, 0}, {0, -5, 0, 0}, {9999, 9998, 1, 1},
            {9999, 9999, 1, 0}, {9998, 9999, 0, 9998}};
        for (int[] c : cases) {
            String by = c[1] < 0 ? "-" + -c[1] : "" + c[1];
            value("a / " + by, c[0], c[2]);
            value("a % " + by, c[0], c[3]);
        }
        value("a / -1", MIN, MIN);
        value("a % -1", MIN, 0);
        value("a / -1", MIN + 1, MAX);
        value("a / 2", MIN, -1073741824);
        value("a / 2", MAX, 1073741823);
        value("a % 10", MIN, -8);
        value("a % 10", MAX, 7);
        value("1 / a", MIN, 0);
        value("1 % a", MIN, 1);
        value("a / a", MIN, 1);
        value("(a - 1) / a", MIN, 0);
    }

    // "'==' | '!=' | '<' | '<='", on either side
    private static void relations() {
        MarbleBath m = reading("pattern l(a, b) if a < b wave x 2, 1; end end pattern m(a, b) if a <= b wave x 2, 1; end end "
                + "pattern e(a, b) if a == b wave x 2, 1; end end pattern u(a, b) if a != b wave x 2, 1; end end "
                + "pattern n(a, b) if a < b else wave x 2, 1; end end");
        int[][] pairs = {{0, 0}, {0, 1}, {1, 0}, {-1, 0}, {0, -1}, {MIN, MAX}, {MAX, MIN}, {MIN, MIN}, {MAX, MAX}, {MIN, 0},
            {0, MAX}, {MAX, -1}, {MIN, 1}};
        for (int[] p : pairs) {
            String both = p[0] + " and " + p[1];
            is(both + " <", m.run(0, p[0], p[1]), p[0] < p[1] ? 1 : 0);
            is(both + " <=", m.run(1, p[0], p[1]), p[0] <= p[1] ? 1 : 0);
            is(both + " ==", m.run(2, p[0], p[1]), p[0] == p[1] ? 1 : 0);
            is(both + " !=", m.run(3, p[0], p[1]), p[0] != p[1] ? 1 : 0);
            is(both + " < else", m.run(4, p[0], p[1]), p[0] < p[1] ? 0 : 1);
        }
    }

    // "E: PART {('+' | '-') PART}. PART: UNIT {('*' | '/' | '%') UNIT}. UNIT: .. '-' UNIT"; "COND: ALL {'or' ALL}"
    private static void order() {
        value("a - 3 - 2", 8, 3);
        value("a - 3 + 2", 8, 7);
        value("a / 3 * 2", 8, 4);
        value("a * 3 / 2", 3, 4);
        value("a % 5 * 2", 8, 6);
        value("a / 3 / 2", 100, 16);
        value("a % 7 % 3", 13, 0);
        value("a + 2 * 3", 1, 7);
        value("(a + 2) * 3", 1, 9);
        value("a - 2 * 3 - 1", 1, -6);
        value("- a + 2", 5, -3);
        value("- a * 2", 5, -10);
        value("- a / 2", 5, -2);
        value("-(a / 2)", 5, -2);
        value("-a % 3", 5, -2);
        value("a - -2", 5, 7);
        value("a * -2", 5, -10);
        value("--a", 5, 5);
        String[] holds = {"1 == 1 or 1 == 2 and 1 == 2", "1 == 2 and 1 == 2 or 1 == 1", "1 == 1 and 1 == 1 or 1 == 2",
            "1 == 2 or 1 == 1 and 1 == 1", "1 == 2 or 1 == 2 or 1 == 1"};
        String[] fails = {"1 == 2 or 1 == 1 and 1 == 2", "1 == 1 and 1 == 2", "1 == 2 and 1 == 1 or 1 == 2 and 1 == 1",
            "1 == 1 and 1 == 1 and 1 == 2", "1 == 2 or 1 == 2"};
        for (String each : holds) {
            does(1, "pattern p if " + each + " wave x 2, 1; else wave x 0, 0; end end", 0, 0);
        }
        for (String each : fails) {
            does(0, "pattern p if " + each + " wave x 0, 0; end end", 0, 0);
        }
    }

    // "its NAME is each whole number from the one to the other in turn (none if the other is less)"
    private static void fors() {
        MarbleBath m = reading("pattern p(a, b) for i = a to b wave x 2, i % 1000; end end "
                + "pattern q(a, b) for i = a to b if i < a wave x 0, 0; end if b < i wave x 0, 0; end wave x 2, i - a; end end");
        int[][] turns = {{3, 3, 1}, {3, 2, 0}, {2, 3, 2}, {-1, 1, 3}, {1, -1, 0}, {0, 0, 1}, {MAX, MAX, 1}, {MAX - 2, MAX, 3},
            {MIN, MIN, 1}, {MIN, MIN + 2, 3}, {MAX, MIN, 0}, {MIN + 1, MIN, 0}, {MAX, MAX - 1, 0}, {-3, -5, 0}, {-5, -3, 3}};
        int facts = 0;
        for (int[] t : turns) {
            is("turns from " + t[0] + " to " + t[1], m.run(0, t[0], t[1]), t[2]);
            for (int i = 0; i < t[2]; i++) {
                is("number in turn", m.number(facts + i, 2), (t[0] + i) % 1000);
            }
            facts += t[2];
            is("logged", m.count(1), facts);
            is("turns within from " + t[0] + " to " + t[1], m.run(1, t[0], t[1]), t[2]);
            for (int i = 0; i < t[2]; i++) {
                is("number within", m.number(facts + i, 2), i);
            }
            facts += t[2];
        }
        is("too many", m.run(0, MIN, MAX), -2);
        is("no room for it", m.broke(), NO_ROOM);
        MarbleBath empty = reading("pattern p(a, b) for i = a to b end end");
        is("too many", empty.run(0, MIN, MAX), -2);
        is("too long", empty.broke(), TOO_LONG);
        is("none", empty.run(0, MAX, MIN), 0);
        is("from 1 to -1 none", empty.run(0, 1, -1), 0);
    }

    // "for: its first E, then its second, once"
    private static void forsEvaluateOnce() {
        MarbleBath m = reading("pattern p(a) for i = a to a + 2 for j = i to a + 1 wave x 2 + i, j; end end end");
        is("2 + 1 + 0 turns", m.run(0, 5, 0), 3);
        int[][] want = {{7, 5}, {7, 6}, {8, 6}};
        for (int i = 0; i < 3; i++) {
            is("i", m.number(i, 1), want[i][0]);
            is("j", m.number(i, 2), want[i][1]);
        }
        does(2, "pattern p for i = 1 to 2 wave x 2, i; end end", 0, 0);
        does(4, "pattern p for i = 1 to 2 for j = 1 to 2 wave x 1 + i, j; end end end", 0, 0);
        does(3, "pattern p for i = 1 to 2 for j = i to 2 wave x 1 + i, j; end end end", 0, 0);
        does(2, "pattern p for i = 1 to 2 for j = 2 to i wave x 1 + i, j; end end wave x 2, 1; end", 0, 0);
        breaks(BY_ZERO, "pattern p ^for i = 1 / 0 to 0 wave x 0, 0; end end", 0, 0);
        breaks(BY_ZERO, "pattern p ^for i = 1 to 1 / 0 wave x 0, 0; end end", 0, 0);
        breaks(BY_ZERO, "pattern p ^for i = 2 to 1 % 0 wave x 0, 0; end end", 0, 0);
    }

    // "1 it would be the 2,001st (for, if, do and all within count, each time ..)": each kind of DEED as the last one
    private static void deedsAtMost() {
        String[] deeds = {"drop 1, 1, 1, 1;", "line x 1, 1, 1;", "comb y 1, 1, 1, 1, 1;", "wave x 2, 1;",
            "for j = 2 to 1 wave x 0, 0; end", "if 1 == 2 wave x 0, 0; end", "if 1 == 1 end", "if 1 == 2 else end", "do e;"};
        for (int i = 0; i < deeds.length; i++) {
            String text = "pattern e end pattern p(a) for i = 1 to a end ^" + deeds[i] + " end";
            does(i < 4 ? 1 : 0, text, 1, 1998);
            breaks(TOO_LONG, text, 1, 1999);
            // one more is broken by the turns themselves
            breaks(TOO_LONG, "pattern e end pattern p(a) ^for i = 1 to a end " + deeds[i] + " end", 1, 2000);
        }
        does(0, "pattern p(a) for i = 1 to a end end", 0, 1999);
        breaks(TOO_LONG, "pattern p(a) ^for i = 1 to a end end", 0, 2000);
        breaks(TOO_LONG, "pattern p(a) ^for i = 1 to a end end", 0, MAX);
        does(0, "pattern p(a) for i = a to 1998 end end", 0, 0);
        breaks(TOO_LONG, "pattern p(a) ^for i = a to 1999 end end", 0, 0);
        breaks(TOO_LONG, "pattern p(a) ^for i = a to 1 end end", 0, MIN);
    }

    // ".. and all within count"; the DEED at which it breaks is the one within
    private static void deedsWithin() {
        String[] texts = {"if 1 == 1 ^wave x 2, 1; end", "if 1 == 2 else ^wave x 2, 1; end", "if 1 == 1 ^do e; end",
            "if 1 == 1 ^if 1 == 1 end end", "if 1 == 1 ^for k = 2 to 1 end end", "do e; ^do e;", "wave x 2, 1; ^wave x 2, 1;"};
        int[] strokes = {1, 1, 0, 0, 0, 0, 2};
        for (int i = 0; i < texts.length; i++) {
            String text = "pattern e end pattern p(a) for i = 1 to a end " + texts[i] + " end";
            does(strokes[i], text, 1, 1997);
            breaks(TOO_LONG, text, 1, 1998);
        }
    }

    // "do and all within count", in the text of the pattern that is done
    private static void deedsOfOthers() {
        String text = "pattern q if 1 == 1 ^wave x 2, 1; end end pattern p(a) for i = 1 to a end do q; end";
        does(1, text, 1, 1996);
        breaks(TOO_LONG, text, 1, 1997);
        breaks(TOO_LONG, "pattern q ^if 1 == 1 wave x 2, 1; end end pattern p(a) for i = 1 to a end do q; end", 1, 1998);
        breaks(TOO_LONG, "pattern q if 1 == 1 wave x 2, 1; end end pattern p(a) for i = 1 to a end ^do q; end", 1, 1999);
        text = "pattern q(b) for i = 1 to b end end pattern p(a) do q(999); do q(a); end";
        does(0, text, 1, 997);
        breaks(TOO_LONG, "pattern q(b) ^for i = 1 to b end end pattern p(a) do q(999); do q(a); end", 1, 998);
        text = "pattern q(b) for i = 1 to b end end pattern p(a) do q(999); do q(a); ^wave x 2, 1; end";
        does(1, text, 1, 996);
        breaks(TOO_LONG, text, 1, 997);
        text = "pattern a wave x 2, 1; wave x 2, 2; end pattern b do a; do a; end pattern c do b; do b; end "
                + "pattern d do c; do c; end pattern e do d; do d; end pattern p(n) for i = 1 to n end do e; ^do e; end";
        // a do of e with all within: 1 + 2 + 4 + 8 + 16 + 32 = 63
        does(64, text, 5, 2000 - 1 - 126);
        breaks(TOO_LONG, text, 5, 2000 - 1 - 63);
    }

    // "each turn of a for counts one more, at that for"
    private static void turnsWithin() {
        String text = "pattern p(a) for i = 1 to a ^if 1 == 1 end end end";
        does(0, text, 0, 999);
        breaks(TOO_LONG, "pattern p(a) for i = 1 to a ^if 1 == 1 end end end", 0, 1000);
        // 1 + 3 * 666 = 1999; the turn is the 2,000th, the for within the 2,001st
        text = "pattern p(a) for i = 1 to a ^for j = 1 to 1 end end end";
        does(0, text, 0, 666);
        breaks(TOO_LONG, text, 0, 667);
        // 1 + 1 + 3 * 666 = 2000: the turn itself
        text = "pattern p(a) wave x 2, 1; ^for i = 1 to a for j = 1 to 1 end end end";
        does(1, text, 0, 666);
        breaks(TOO_LONG, text, 0, 667);
        // 2 + 1 + 3 * 665 = 1998: turn, for, and the turn within, at the for within
        text = "pattern p(a) wave x 2, 1; wave x 2, 1; for i = 1 to a ^for j = 1 to 1 end end end";
        does(2, text, 0, 665);
        breaks(TOO_LONG, text, 0, 666);
        // a turn counts ahead of what is in it
        text = "pattern p(a) for i = 1 to a end ^for j = 1 to 1 wave x 2, 1; end end";
        breaks(TOO_LONG, text, 0, 1998);
        breaks(TOO_LONG, text, 0, 1999);
        text = "pattern p(a) for i = 1 to a end for j = 1 to 1 ^wave x 2, 1; end end";
        does(1, text, 0, 1996);
        breaks(TOO_LONG, text, 0, 1997);
    }

    private static void turnsOfAll() {
        String fors = "for b = 1 to a for c = 1 to 2 for d = 1 to 2 for e = 1 to 2 for f = 1 to 2 for g = 1 to 2 end end end end end end end";
        // g: 1 + 2; f: 1 + 2 * 4 = 9; e: 1 + 2 * 10 = 21; d: 45; c: 93; a turn of b: 94, so 21 of them are 1975
        does(0, "pattern p(a) " + fors, 0, 21);
        // the 26th of the next turn is a turn of g
        breaks(TOO_LONG, "pattern p(a) " + fors.replace("for g", "^for g"), 0, 22);
        String waves = times(25, "wave x 2, 1; ");
        does(25, "pattern p(a) " + waves + fors, 0, 21);
        breaks(TOO_LONG, "pattern p(a) " + waves + "^" + fors, 0, 22);
        breaks(TOO_LONG, "pattern p(a) " + waves + "wave x 2, 1; " + fors.replace("for g", "^for g"), 0, 21);
    }

    // "2 a number of a STROKE that is not as II says (COLOURS too)"
    private static void strokeNumbers() {
        String[] words = {"drop", "line y", "comb x", "wave y"};
        int[][] least = {{0, 0, 1, 0}, {0, -1023, 1}, {0, 1, 1, -1023, 1}, {2, -1023}};
        int[][] greatest = {{1023, 1023, 512, 7}, {1023, 1023, 1023}, {1023, 1023, 20, 1023, 1023}, {1024, 1023}};
        for (int kind = 0; kind < 4; kind++) {
            for (int i = 0; i < least[kind].length; i++) {
                StringBuilder told = new StringBuilder(words[kind]);
                for (int k = 0; k < least[kind].length; k++) {
                    told.append(k == 0 ? " " : ", ").append(k == i ? "a" : "5");
                }
                String text = "pattern p(a) wave x 2, 1; ^" + told + "; wave x 2, 1; end";
                int low = least[kind][i];
                int high = greatest[kind][i];
                for (int value : new int[] {low, low + 1, high - 1, high}) {
                    does(3, text, 0, value);
                }
                for (int value : new int[] {low - 1, low - 2, high + 1, high + 2, MIN, MAX}) {
                    breaks(UNFIT, text, 0, value);
                }
                MarbleBath m = reading(text.replace("^", ""));
                m.run(0, high, 0);
                m.run(0, low, 0);
                int at = kind == 0 ? i : i + 1;
                is("as it was told", m.number(1, at), high);
                is("as it was told", m.number(4, at), low);
                is("its axis", kind == 0 ? 0 : m.number(1, 0), kind % 2);
            }
        }
    }

    // "3 a division by 0 in its Es"
    private static void byZero() {
        String[] deeds = {"drop E, 1, 1, 1;", "drop 1, 1, 1, E;", "line x E, 1, 1;", "line y 1, 1, E;", "comb x E, 1, 1, 1, 1;",
            "comb y 1, 1, 1, 1, E;", "wave x E, 1;", "wave y 2, E;", "for i = E to 0 end", "for i = 0 to E end", "if E == 1 end",
            "if 1 == E end", "if 1 == 1 and 1 == E end", "if 1 == 2 or E == 1 end", "do q(E);", "do r(1, E);", "do r(E, 1);"};
        String[] es = {"5 / a", "5 % a", "1 + 5 / a", "-(5 / a)", "5 / (a * 2)", "5 / a / a", "(5 / a) * 0", "0 / a", "0 % a"};
        String told = "pattern q(a) end pattern r(a, b) end pattern p(a) wave x 2, 1; ^";
        for (String deed : deeds) {
            for (String e : es) {
                breaks(BY_ZERO, told + deed.replace("E", e) + " end", 2, 0);
            }
        }
        does(1, "pattern p(a) wave x 2, 5 / a; end", 0, 1);
        does(1, "pattern p(a) wave x 2, 5 / a; end", 0, -1);
        does(1, "pattern p(a) wave x 2, 5 % a; end", 0, 1);
        does(1, "pattern p(a) wave x 2, 5 % a; end", 0, -1);
        breaks(BY_ZERO, "pattern p(a) ^wave x 2, 5 / a; end", 0, 0);
        breaks(BY_ZERO, "pattern p(a) ^wave x 2, 1 / (7 - 7); end", 0, 0);
        breaks(BY_ZERO, "pattern q(a) ^wave x 2, 1 / a; end pattern p(a) do q(a); end", 1, 0);
        breaks(BY_ZERO, "pattern q(a) wave x 2, 1 / a; end pattern p(a) ^do q(1 / a); end", 1, 0);
    }

    // "of a COND no more than is needed"
    private static void noMoreThanIsNeeded() {
        String[] holds = {"1 == 1 or 1 / 0 == 1", "1 == 1 or 1 / 0 == 1 and 1 / 0 == 1", "1 == 2 or 1 == 1 or 1 / 0 == 1",
            "1 == 2 and 1 / 0 == 1 or 1 == 1", "1 == 2 and 1 / 0 == 1 and 1 / 0 == 1 or 1 == 1 or 1 / 0 == 1",
            "1 == 1 and 2 == 2 or 1 / 0 == 1", "1 == 2 and 1 / 0 == 1 or 1 == 1 and 2 == 2"};
        String[] fails = {"1 == 2 and 1 / 0 == 1", "1 == 1 and 1 == 2 and 1 / 0 == 1", "1 == 2 and 1 / 0 == 1 or 1 == 2 and 1 / 0 == 1",
            "1 == 2 and 1 / 0 == 1 and 1 / 0 == 1", "1 == 2 or 1 == 2 and 1 / 0 == 1"};
        String[] broken = {"1 == 1 and 1 / 0 == 1", "1 == 2 or 1 / 0 == 1", "1 / 0 == 1 or 1 == 1", "1 / 0 == 1 and 1 == 2",
            "1 == 2 and 1 == 1 or 1 / 0 == 1", "1 == 1 and 2 == 2 and 1 / 0 == 1", "1 == 2 or 1 == 2 or 1 / 0 == 1",
            "1 == 2 and 1 == 2 or 2 == 2 and 1 / 0 == 1", "1 == 1 and 1 == 2 or 1 / 0 == 1"};
        for (String each : holds) {
            does(1, "pattern p if " + each + " wave x 2, 1; else wave x 0, 0; end end", 0, 0);
        }
        for (String each : fails) {
            does(1, "pattern p if " + each + " wave x 0, 0; else wave x 2, 1; end end", 0, 0);
        }
        for (String each : broken) {
            breaks(BY_ZERO, "pattern p ^if " + each + " wave x 2, 1; else wave x 2, 1; end end", 0, 0);
        }
        breaks(BY_ZERO, "pattern p ^if 1 == 2 / 0 end end", 0, 0);
        breaks(BY_ZERO, "pattern p ^if 1 / 0 == 2 / 0 end end", 0, 0);
    }

    // "looked at in this order: 1 .., 3 .., 2 .., 4"; but the first DEED at which one is so comes ahead of that
    private static void lookedAtInThisOrder() {
        String deeds = "^drop 9999, 1 / 0, 1, 1;";
        breaks(TOO_LONG, "pattern p(a) for i = 1 to a end " + deeds + " end", 0, 1999);
        breaks(BY_ZERO, "pattern p(a) for i = 1 to a end " + deeds + " end", 0, 1998);
        breaks(BY_ZERO, "pattern p ^drop 1, 1, 0, 1 / 0; end", 0, 0);
        breaks(UNFIT, "pattern p ^drop 1, 1, 0, 1; drop 1 / 0, 1, 1, 1; end", 0, 0);
        breaks(BY_ZERO, "pattern p ^drop 1 / 0, 1, 1, 1; drop 1, 1, 0, 1; end", 0, 0);
        String full = "pattern p(a) for i = 1 to a wave x 2, 1; end ";
        breaks(NO_ROOM, full + "^drop 1, 1, 1, 1; drop 1, 1, 0, 1; end", 0, 120);
        breaks(UNFIT, full + "^drop 1, 1, 0, 1; drop 1, 1, 1, 1; end", 0, 120);
        breaks(BY_ZERO, full + "^drop 1, 1, 0, 1 / 0; drop 1, 1, 1, 1; end", 0, 120);
        breaks(UNFIT, full + "drop 1, 1, 1, 1; ^drop 1, 1, 0, 1; end", 0, 119);
        breaks(NO_ROOM, full + "drop 1, 1, 1, 1; ^drop 1, 1, 1, 1; end", 0, 119);
        String late = "pattern p(a) for i = 1 to 1758 end for i = 1 to a wave x 2, 1; end ";
        // 1 + 1758 + 1 + 2 * 120 = 2000
        breaks(TOO_LONG, late + "^drop 1, 1, 0, 1 / 0; end", 0, 120);
        breaks(BY_ZERO, late.replace("1758", "1757") + "^drop 1, 1, 0, 1 / 0; end", 0, 120);
        breaks(UNFIT, late.replace("1758", "1757") + "^drop 1, 1, 0, 1; end", 0, 120);
        breaks(NO_ROOM, late.replace("1758", "1757") + "^drop 1, 1, 1, 1; end", 0, 120);
        does(120, late.replace("1758", "1757") + "drop 1, 1, 1, 1; end", 0, 119);
    }

    // "4: more than 120 FACTS"
    private static void roomInTheLog() {
        String text = "pattern p(a) for i = 1 to a ^wave x 2, 1; end end";
        does(0, text, 0, 0);
        does(0, text, 0, -1);
        does(119, text, 0, 119);
        does(120, text, 0, 120);
        breaks(NO_ROOM, text, 0, 121);
        for (int there = 0; there <= 120; there += 8) {
            MarbleBath m = reading(text.replace("^", ""));
            for (int i = 0; i < there; i++) {
                is("a lay", m.lay(0), i);
            }
            is("one too many behind " + there, m.run(0, 121 - there, 0), -2);
            is("no room", m.broke(), NO_ROOM);
            is("at the wave", m.where(), text.indexOf('^'));
            is("nothing is logged", m.count(1), there);
            is("just as many behind " + there, m.run(0, 120 - there, 0), 120 - there);
            is("120", m.count(1), 120);
            is("none are always right", m.run(0, 0, 0), 0);
            is("one more is not", m.run(0, 1, 0), -2);
        }
    }

    // "-2, and nothing happens"
    private static void nothingHappens() {
        MarbleBath m = reading("pattern p(a) drop 5, 5, 5, 5; wave x a, 1; end");
        m.drop(5, 5, 5, 2);
        is("it breaks", m.run(0, 1, 0), -2);
        is("one fact", m.count(1), 1);
        is("one stroke", m.count(2), 1);
        is("no kind", m.kind(1), -1);
        is("the first one's colour", m.colour(5, 5, 1), 2);
        is("none such", m.colour(5, 5, 2), -1);
        is("the next fact", m.lay(3), 1);
        is("it is done", m.run(0, 2, 0), 2);
        is("behind it", m.kind(2), 0);
        is("and", m.kind(3), 3);
        is("and no more", m.kind(4), -1);
    }

    // "Why the latest run() that was -2 broke (1 .. 4); 0 ahead of any."; "NONE ahead of any"
    private static void brokeAndWhere() {
        MarbleBath m = new MarbleBath();
        is("ahead of any", m.broke(), 0);
        is("ahead of any", m.where(), -1);
        is("none such", m.run(0, 0, 0), -1);
        String text = "pattern a for i = 1 to 2000 end end pattern b wave x 1 / 0, 1; end pattern c wave x 0, 1; end "
                + "pattern d for i = 1 to 121 wave x 2, 1; end end pattern e wave x 2, 1; end";
        is("read", Due.read(m, text), 0);
        is("one that does not break", m.run(4, 0, 0), 1);
        is("none broke", m.broke(), 0);
        is("none broke", m.where(), -1);
        String[] at = {"for i = 1 to 2000", "wave x 1 /", "wave x 0", "wave x 2, 1; end end"};
        int[] why = {TOO_LONG, BY_ZERO, UNFIT, NO_ROOM};
        for (int round = 0; round < 2; round++) {
            for (int i = 0; i < 4; i++) {
                is("it breaks", m.run(i, 0, 0), -2);
                is("why", m.broke(), why[i]);
                is("where", m.where(), text.indexOf(at[i]));
                is("one that does not", m.run(4, 0, 0), 1);
                is("none such", m.run(5, 0, 0), -1);
                is("none such", m.run(-1, 0, 0), -1);
                m.made(0, 1);
                m.row(0, 0, 1);
                is("it stays", m.broke(), why[i]);
                is("it stays", m.where(), text.indexOf(at[i]));
            }
        }
        is("a fault", Due.read(m, "!"), 1);
        is("it stays", m.where(), text.indexOf(at[3]));
        is("another text", Due.read(m, "pattern p wave x 9, 9999; end"), 0);
        is("it stays", m.broke(), NO_ROOM);
        is("it stays", m.where(), text.indexOf(at[3]));
        is("another one breaks", m.run(0, 0, 0), -2);
        is("why", m.broke(), UNFIT);
        is("where", m.where(), 10);
        is("made breaks, too, but is no run", m.lay(0) >= 0 ? m.made(0, m.count(1)) : 0, -2);
        is("it stays", m.broke(), UNFIT);
        MarbleBath first = reading("pattern p wave x 0, 0; end");
        first.run(0, 0, 0);
        is("the first deed", first.where(), 10);
        MarbleBath tight = reading("pattern p\n\t wave x 0, 0; end");
        tight.run(0, 0, 0);
        is("behind blanks", tight.where(), 12);
    }

    // "(parameters that it has not do not matter)"; "NONE: there is none such"
    private static void parametersThatItHasNot() {
        MarbleBath m = reading("pattern n wave x 5, 6; end pattern o(a) wave x a, 6; end pattern t(a, b) wave x a, b; end");
        int[] values = {0, 1, -1, 9, MIN, MAX};
        int facts = 0;
        for (int v : values) {
            is("none", m.run(0, v, -v), 1);
            is("5", m.number(facts, 1), 5);
            is("one", m.run(1, 7, v), 1);
            is("7", m.number(facts + 1, 1), 7);
            is("6", m.number(facts + 1, 2), 6);
            facts += 2;
        }
        is("two", m.run(2, 8, -9), 1);
        is("8", m.number(facts, 1), 8);
        is("-9", m.number(facts, 2), -9);
        for (int pattern : new int[] {-1, -2, 3, 4, 7, 8, MIN, MAX}) {
            is("none such " + pattern, m.run(pattern, 1, 1), -1);
        }
        is("nothing came of it", m.count(1), facts + 1);
        is("none broke", m.broke(), 0);
    }

    // "'do' NAME ['(' E [',' E] ')']": the first E is the first parameter, each pattern has its own
    private static void givenParameters() {
        MarbleBath m = reading("pattern o(a) wave x a, 1; end pattern t(a, b) wave x a, b; do o(b); end "
                + "pattern p(b, a) do t(a, b); do o(a + b); wave x a, b; for a1 = a to a do t(b, a1); end end");
        is("2 + 1 + 1 + 2", m.run(2, 5, 7), 6);
        int[][] want = {{7, 5}, {5, 1}, {12, 1}, {7, 5}, {5, 7}, {7, 1}};
        for (int i = 0; i < 6; i++) {
            is("period of " + i, m.number(i, 1), want[i][0]);
            is("by of " + i, m.number(i, 2), want[i][1]);
        }
    }

    // eight patterns, each done by the next one; in each six fors and two parameters are in reach
    private static void eightWithinOneAnother() {
        StringBuilder text = new StringBuilder("pattern a(p, q) wave x p, q; end ");
        for (char name = 'b'; name < 'i'; name++) {
            text.append("pattern ").append(name).append("(p, q) do ").append((char) (name - 1))
                    .append("(p + 1, q + 2); wave x p, q; end ");
        }
        MarbleBath m = reading(text.toString());
        is("eight", m.run(7, 10, 20), 8);
        for (int i = 0; i < 8; i++) {
            is("p of " + i, m.number(i, 1), 17 - i);
            is("q of " + i, m.number(i, 2), 34 - 2 * i);
        }
        StringBuilder turns = new StringBuilder("pattern a for i = 1 to 2 wave x 2, i; end end ");
        for (char name = 'b'; name < 'i'; name++) {
            turns.append("pattern ").append(name).append(" for i = 1 to 2 do ").append((char) (name - 1)).append("; end wave x 3, 1; end ");
        }
        // 2, then twice that and one more, seven times: 5, 11, 23, 47, 95, 191, 383
        MarbleBath many = reading(turns.toString());
        int[] strokes = {2, 5, 11, 23, 47};
        for (int i = 0; i < 5; i++) {
            is("turns within one another " + i, many.run(i, 0, 0), strokes[i]);
        }
        is("too many", many.run(7, 0, 0), -2);
        is("no room", many.broke(), NO_ROOM);
        MarbleBath eight = reading(turns.toString().replace("for i = 1 to 2 do", "for i = 3 to 3 do").replace("x 3, 1", "x 3, 9"));
        is("two and seven", eight.run(7, 0, 0), 9);
        is("the first turn's", eight.number(0, 2), 1);
        is("the second turn's", eight.number(1, 2), 2);
        is("behind it", eight.number(2, 2), 9);
        String fors = "for c = a to a for d = b to b for e = c + 1 to c + 1 for f = d + 1 to d + 1 for g = e + f to e + f "
                + "for h = a - b to a - b wave x a + c, b + d; wave x e, f; wave x g, h; end end end end end end end ";
        MarbleBath deep = reading("pattern q(a, b) " + fors + "pattern r(a, b) " + fors.replace("wave x g, h;", "do q(b, a); wave x g, h;"));
        is("six", deep.run(1, 10, 20), 6);
        int[][] want = {{20, 40}, {11, 21}, {40, 20}, {21, 11}, {32, 10}, {32, -10}};
        for (int i = 0; i < 6; i++) {
            is("first of " + i, deep.number(i, 1), want[i][0]);
            is("second of " + i, deep.number(i, 2), want[i][1]);
        }
    }

    // "else its PATTERNS are in place of those ahead": nothing of the texts ahead is left, however many they are
    private static void manyTexts() {
        for (String end : new String[] {" end", " end !"}) {
            MarbleBath m = new MarbleBath();
            String text = "pattern p " + times(36, "wave x 9,1;");
            for (int i = 0; i < 20; i++) {
                is("a text", Due.read(m, text + end), end.equals(" end") ? 0 : 1);
            }
            is("the last text", Due.read(m, "pattern q wave x 8, 2; end pattern p do q; " + times(20, "wave x 7,3;") + " end"), 0);
            is("it is done", m.run(1, 0, 0), 21);
            is("the first one", m.number(0, 1), 8);
            is("the last one", m.number(20, 1), 7);
        }
    }

    // nothing is left of a run that broke, however many they are
    private static void manyBreaks() {
        MarbleBath m = reading("pattern p(a) drop 1, 2, 3, 1 + (2 + (3 + (4 + (5 + (6 - 8 / a * 2))))); end "
                + "pattern q(a) for i = 1 to 2 for j = 3 to 4 do p(a); end end end");
        for (int i = 0; i < 200; i++) {
            is("it breaks", m.run(i % 2, 0, 0), -2);
            is("by 0", m.broke(), BY_ZERO);
        }
        is("once", m.run(0, 1, 0), 1);
        is("21 - 16", m.number(0, 3), 5);
        is("four times", m.run(1, 1, 0), 4);
        for (int fact = 1; fact < 5; fact++) {
            for (int i = 0; i < 3; i++) {
                is("number " + i, m.number(fact, i), i + 1);
            }
            is("21 - 16", m.number(fact, 3), 5);
        }
    }
}
