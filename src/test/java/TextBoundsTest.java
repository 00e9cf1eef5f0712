/**
 * "Terms" III up to the FAULTS, and promises 2 .. 5 and 15: each sentence that names a bound, told above its
 * test, with an answer on either side of it.
 */
public final class TextBoundsTest {
    private static final Due DUE = new Due();
    private static final String[] WORDS = {"pattern", "end", "drop", "line", "comb", "wave", "for", "to", "if", "else",
        "do", "x", "y", "or", "and"};
    private static final int SYNTAX = 1;
    private static final int ROOM = 2;
    private static final int TWICE = 3;
    private static final int NAME = 4;
    private static final int WRONG = 5;

    public static void main(String[] args) {
        feeds();
        backs();
        bytesInOrder();
        longTexts();
        everyByteInAName();
        everyByteAsAName();
        everyByteInAnInt();
        names();
        words();
        ints();
        longestSigns();
        blanks();
        parameterCounts();
        numbersOfEs();
        grammar();
        patternsAtMost();
        nested();
        nestedUnits();
        unitsEverywhere();
        tokensAtMost();
        lastTokens();
        firstByPlace();
        syntaxAndRoomFirst();
        twice();
        reach();
        toldAhead();
        wrongNumbers();
        faultsChangeNothing();
        places();
        DUE.end("TextBoundsTest");
    }

    private static void is(String call, int got, int want) {
        DUE.is(call, got, want);
    }

    private static void whole(String text) {
        MarbleBath m = new MarbleBath();
        is("read of " + shown(text), Due.read(m, text), 0);
        is("no place in " + shown(text), m.place(), -1);
        is("the tape is empty", m.count(3), 0);
    }

    /** The text with a ^ ahead of the byte at which its fault is to be; the ^ itself is not read. */
    private static void fault(int number, String marked) {
        int place = marked.indexOf('^');
        String text = marked.substring(0, place) + marked.substring(place + 1);
        MarbleBath m = new MarbleBath();
        Due.read(m, "pattern old(a, b) end pattern older end");
        is("fault of " + shown(marked), Due.read(m, text), number);
        is("its place in " + shown(marked), m.place(), place);
        is("the tape is empty", m.count(3), 0);
        is("the patterns stay", m.count(0), 2);
        is("their parameters stay", m.parameters(0), 2);
    }

    private static String shown(String text) {
        return text.length() <= 90 ? text : ".. " + text.length() + " .. " + text.substring(text.length() - 80);
    }

    private static String times(int count, String part) {
        return part.repeat(count);
    }

    // "Twenty bytes .. NONE, and nothing comes, if it would have more than 2,000."
    private static void feeds() {
        for (int less = 0; less <= 21; less++) {
            MarbleBath m = new MarbleBath();
            for (int i = 1; i <= 100; i++) {
                is("feed " + i, m.feed(i, 0, -1, 7, 9), 20 * i);
            }
            is("2,000 are there: no more", m.feed(1, 2, 3, 4, 5), -1);
            is("back " + less, m.back(less), 2000 - less);
            is("feed behind it", m.feed(1, 2, 3, 4, 5), less < 20 ? -1 : 2020 - less);
            is("so many are there", m.count(3), less < 20 ? 2000 - less : 2020 - less);
        }
    }

    // "NONE, and nothing goes, if it has not so many, or n is below 0."
    private static void backs() {
        MarbleBath m = new MarbleBath();
        is("none of none", m.back(0), 0);
        is("one of none", m.back(1), -1);
        m.feed(1, 1, 1, 1, 1);
        for (int n : new int[] {-1, -2, 21, 22, 2000, Integer.MIN_VALUE, Integer.MAX_VALUE}) {
            is("back " + n + " of 20", m.back(n), -1);
            is("nothing went", m.count(3), 20);
        }
        is("none", m.back(0), 20);
        is("19", m.back(19), 1);
        is("two of one", m.back(2), -1);
        is("the last", m.back(1), 0);
        is("one of none", m.back(1), -1);
        m.feed(1, 1, 1, 1, 1);
        is("all 20", m.back(20), 0);
    }

    // "the highest of a first"; "The last n bytes of the tape go"
    private static void bytesInOrder() {
        for (int i = 0; i < 20; i++) {
            MarbleBath m = new MarbleBath();
            int[] w = {0x20202020, 0x20202020, 0x20202020, 0x20202020, 0x20202020};
            w[i / 4] ^= 1 << 24 - 8 * (i % 4);
            m.feed(w[0], w[1], w[2], w[3], w[4]);
            is("a ! at " + i, m.read(), SYNTAX);
            is("its place", m.place(), i);
            m.feed(w[0], w[1], w[2], w[3], w[4]);
            is("it is left", m.back(19 - i), i + 1);
            is("a ! at the end", m.read(), SYNTAX);
            is("its place", m.place(), i);
            m.feed(w[0], w[1], w[2], w[3], w[4]);
            is("it is gone", m.back(20 - i), i);
            is("blanks", m.read(), 0);
        }
        MarbleBath m = new MarbleBath();
        m.feed(-1, -1, -1, -1, -1);
        is("bytes of 255", m.read(), SYNTAX);
        is("their place", m.place(), 0);
    }

    // "a text of at most 2,000 bytes"; "the text's end: its length"
    private static void longTexts() {
        String start = "pattern p drop 1, 1, 1, 1;";
        whole(start + times(2000 - start.length() - 3, " ") + "end");
        whole(start + "end" + times(2000 - start.length() - 3, "\n"));
        fault(SYNTAX, start + times(2000 - start.length(), " ") + "^");
        fault(SYNTAX, start + "end" + times(1999 - start.length() - 3, " ") + "^!");
        fault(SYNTAX, start + times(2000 - start.length() - 2, " ") + "^en");
        fault(SYNTAX, start + times(2000 - start.length() - 1, " ") + "^e");
        for (int length : new int[] {0, 1, 19, 20, 21, 1980, 1999, 2000}) {
            whole(times(length, " "));
        }
        for (int length : new int[] {7, 8, 9, 100, 1979, 1980, 1981, 1999, 2000}) {
            fault(SYNTAX, "pattern" + times(length - 7, " ") + "^");
        }
    }

    // NAMES: "a letter a .. z, then letters and digits"; blanks "9, 10, 13, 32"; "all else, is no TOKEN"
    private static void everyByteInAName() {
        for (int b = 0; b < 256; b++) {
            char c = (char) b;
            if (isBlank(b)) {
                whole("pattern p" + c + "end");
            } else if (isLetter(b) || isDigit(b)) {
                whole("pattern p" + c + "end end");
                fault(SYNTAX, "pattern p" + c + "end^");
            } else if (b == '(') {
                fault(SYNTAX, "pattern p(^end");
            } else if (b != '^') {
                fault(SYNTAX, "pattern p^" + c + "end");
            }
        }
        MarbleBath m = new MarbleBath();
        is("the sign that marks places here is no token", Due.read(m, "pattern p^end"), SYNTAX);
        is("its place", m.place(), 9);
    }

    private static void everyByteAsAName() {
        for (int b = 0; b < 256; b++) {
            char c = (char) b;
            if (isLetter(b) && b != 'x' && b != 'y') {
                whole("pattern " + c + " end");
                whole("pattern " + c + "9 end");
            } else if (isBlank(b)) {
                fault(SYNTAX, "pattern " + c + " ^end");
            } else if (b != '^') {
                fault(SYNTAX, "pattern ^" + c + " end");
            }
        }
    }

    // INTS: "1 to 4 digits"; SIGNS "; , + - * / % = == != < <= ( )"
    private static void everyByteInAnInt() {
        for (int b = 0; b < 256; b++) {
            char c = (char) b;
            if (isBlank(b) || isDigit(b)) {
                whole("pattern p drop 1" + c + ",1,1,1; end");
            } else if ("+-*/%,".indexOf(c) >= 0) {
                fault(SYNTAX, "pattern p drop 1" + c + "^,1,1,1; end");
            } else if (b != '^') {
                fault(SYNTAX, "pattern p drop 1^" + c + ",1,1,1; end");
            }
        }
    }

    private static boolean isBlank(int b) {
        return b == 9 || b == 10 || b == 13 || b == 32;
    }

    private static boolean isLetter(int b) {
        return b >= 97 && b <= 122;
    }

    private static boolean isDigit(int b) {
        return b >= 48 && b <= 57;
    }

    // NAMES: "at most 8"; "A longer one .. is no TOKEN"
    private static void names() {
        for (String name : new String[] {"a", "z", "a0", "z9", "abcdefg", "abcdefgh", "zzzzzzzz", "a1234567", "ab12cd34"}) {
            whole("pattern " + name + " end");
            whole("pattern p(" + name + ") drop " + name + ", 1, 1, 1; end");
            whole("pattern p(q, " + name + ") drop " + name + ", 1, 1, 1; end");
            whole("pattern p for " + name + " = 1 to 2 wave x " + name + ", 1; end end");
            whole("pattern " + name + " end pattern p do " + name + "; end");
        }
        for (String name : new String[] {"abcdefghi", "zzzzzzzzz", "a12345678", "a1234567z", "abcdefghijklmnop", "drop12345"}) {
            fault(SYNTAX, "pattern ^" + name + " end");
            fault(SYNTAX, "pattern p(^" + name + ") end");
            fault(SYNTAX, "pattern p(q, ^" + name + ") end");
            fault(SYNTAX, "pattern p for ^" + name + " = 1 to 2 end end");
            fault(SYNTAX, "pattern p drop ^" + name + ", 1, 1, 1; end");
            fault(SYNTAX, "pattern p do ^" + name + "; end");
        }
        whole("pattern abcdefgh end pattern abcdefgi end pattern abcdefg end pattern bcdefgh end");
        fault(TWICE, "pattern abcdefgh end pattern ^abcdefgh end");
        whole("pattern p(a, aa) drop a, aa, 1, 1; end");
        whole("pattern p(a, b) drop a, b, 1, 1; end pattern a end pattern aa do a; end");
        fault(NAME, "pattern p(aa) drop ^a, 1, 1, 1; end");
        fault(NAME, "pattern p(a) drop ^aa, 1, 1, 1; end");
        fault(SYNTAX, "pattern ^1a end");
        fault(SYNTAX, "^patternp end");
        fault(SYNTAX, "pattern p1 ^2 end");
    }

    // "none of the words in quotes"
    private static void words() {
        for (String word : WORDS) {
            fault(SYNTAX, "pattern ^" + word + " end");
            fault(SYNTAX, "pattern p(^" + word + ") end");
            fault(SYNTAX, "pattern p for ^" + word + " = 1 to 2 end end");
            fault(SYNTAX, "pattern p do ^" + word + "; end");
            fault(SYNTAX, "pattern p drop ^" + word + ", 1, 1, 1; end");
            whole("pattern " + word + "1 end");
            whole("pattern a" + word + " end");
            if (word.length() > 1) {
                whole("pattern " + word.substring(0, word.length() - 1) + " end");
                // what is left of for is a word again
                whole("pattern " + (word.equals("for") ? "fr" : word.substring(1)) + " end");
            }
            whole("pattern " + word + "z end");
            fault(SYNTAX, "pattern p end ^" + word + "s p end");
            if (!word.equals("pattern")) {
                fault(SYNTAX, "^" + word + " p end");
                fault(SYNTAX, "pattern p end ^" + word + " p end");
            }
        }
    }

    // INTS: "1 to 4 digits"
    private static void ints() {
        int[] values = {0, 5, 9, 10, 42, 99, 100, 999, 1000, 9998, 9999};
        for (int value : values) {
            MarbleBath m = new MarbleBath();
            is("read", Due.read(m, "pattern p(a) if a == " + value + " wave x 2, 1; end end"), 0);
            is(value + " is " + value, m.run(0, value, 0), 1);
            is(value + " is not one more", m.run(0, value + 1, 0), 0);
            is(value + " is not one less", m.run(0, value - 1, 0), 0);
        }
        for (String zeros : new String[] {"0", "00", "000", "0000", "0009", "009", "09"}) {
            whole("pattern p wave x " + zeros + ", 1; end");
        }
        for (String more : new String[] {"00000", "12345", "10000", "99999", "123456789012"}) {
            fault(SYNTAX, "pattern p wave x ^" + more + ", 1; end");
            fault(SYNTAX, "pattern p wave x 1, ^" + more + "; end");
            fault(SYNTAX, "pattern p if ^" + more + " == 1 end end");
            fault(SYNTAX, "pattern p if 1 == 1 or 2 < ^" + more + " end end");
        }
        fault(SYNTAX, "pattern p wave x 1 ^2, 1; end");
        fault(SYNTAX, "pattern p wave x 1234 ^5, 1; end");
        fault(SYNTAX, "pattern p wave x 1234^a, 1; end");
        fault(SYNTAX, "pattern p wave x 123^a4, 1; end");
        whole("pattern p if 1234==1or 1==1234end end");
    }

    // "TOKENS, the longest that can be, with blanks .. between or not"
    private static void longestSigns() {
        String start = "pattern p if 1";
        for (String sign : new String[] {"==", "!=", "<=", "<"}) {
            whole(start + sign + "1 end end");
            whole(start + sign + "-1 end end");
            whole(start + sign + "(1)end end");
            whole(start + " " + sign + " 1 end end");
            fault(SYNTAX, start + sign + "^");
            fault(SYNTAX, start + sign + (sign.equals("<") ? "=^=1 end end" : "^=1 end end"));
            fault(SYNTAX, start + sign + "^<1 end end");
            fault(SYNTAX, start + sign + " ^=1 end end");
        }
        for (String none : new String[] {"=", "= =", "! =", "!", "!1", "=<", ">", ">=", "=!", "&", "|"}) {
            fault(SYNTAX, start + "^" + none + "1 end end");
            fault(SYNTAX, start + " ^" + none);
        }
        whole("pattern p for i=1to 2end end");
        fault(SYNTAX, "pattern p for i=1^to2end end");
        fault(SYNTAX, "pattern p for i=1 to 2end^");
        whole("pattern p for i=1to(2)end end");
        fault(SYNTAX, "pattern p for i^==1 to 2 end end");
        fault(SYNTAX, "^patternp");
        fault(SYNTAX, "pattern p drop ^+1,1,1,1; end");
        whole("pattern p drop-1,1,1,1;end");
        whole("pattern p drop(1),1,1,1;end");
        fault(SYNTAX, "pattern p ^drop1,1,1,1; end");
        fault(SYNTAX, "pattern p line ^xx,1,1; end");
        fault(SYNTAX, "pattern p line ^x1,1,1; end");
        whole("pattern p line x(1),1,1;line y-1,1,1;end");
        whole("pattern p(a,b)drop a,b,a*b/a%b+a-b,1;end");
    }

    // "blanks (9, 10, 13, 32)": ahead of the first, behind the last, many, none where none is needed
    private static void blanks() {
        String blanks = "\t\n\r \r\n\t\t  ";
        whole(blanks + "pattern" + blanks + "p" + blanks + "(" + blanks + "a" + blanks + ")" + blanks + "end" + blanks);
        for (char other : new char[] {8, 11, 12, 14, 31, 33, 0, 127, 128, 137, 138, 141, 160, 255}) {
            fault(SYNTAX, "pattern p^" + other + "end");
            fault(SYNTAX, "^" + other + "pattern p end");
            fault(SYNTAX, "pattern p end^" + other);
        }
    }

    // "['(' NAME [',' NAME] ')']"; parameters(): "NONE: there is none such"
    private static void parameterCounts() {
        MarbleBath m = new MarbleBath();
        is("read", Due.read(m, "pattern p end pattern q(a) end pattern r(a, b) end"), 0);
        for (int p = 0; p < 3; p++) {
            is("parameters of " + p, m.parameters(p), p);
        }
        for (int p : new int[] {-1, -2, 3, 4, 7, 8, Integer.MIN_VALUE, Integer.MAX_VALUE}) {
            is("parameters of " + p, m.parameters(p), -1);
            is("run of " + p, m.run(p, 0, 0), -1);
        }
        fault(SYNTAX, "pattern p(^) end");
        fault(SYNTAX, "pattern p(a ^end");
        fault(SYNTAX, "pattern p(a,^) end");
        fault(SYNTAX, "pattern p(a, b ^end");
        fault(SYNTAX, "pattern p(^,a) end");
        fault(SYNTAX, "pattern p(a, b^, c) end");
        fault(SYNTAX, "pattern p(a ^b) end");
        fault(SYNTAX, "pattern p(^1) end");
        fault(SYNTAX, "pattern p^, a end");
        fault(SYNTAX, "pattern p(a)^(b) end");
        is("read of one", Due.read(m, "pattern p(a) end"), 0);
        is("it is there", m.parameters(0), 1);
        is("those ahead are not", m.parameters(1), -1);
        is("one", m.count(0), 1);
        is("read of none", Due.read(m, ""), 0);
        is("none", m.parameters(0), -1);
        is("none", m.count(0), 0);
    }

    // "'drop' E ',' E ',' E ',' E ';'" and so on: one E less or more does not go on
    private static void numbersOfEs() {
        String[] heads = {"drop ", "line x ", "line y ", "comb x ", "comb y ", "wave x ", "wave y "};
        int[] es = {4, 3, 3, 5, 5, 2, 2};
        for (int i = 0; i < heads.length; i++) {
            String start = "pattern p " + heads[i];
            String enough = times(es[i] - 1, "1, ");
            whole(start + enough + "1; end");
            fault(SYNTAX, start + enough + "1^, 1; end");
            fault(SYNTAX, start + enough + "1 ^end");
            fault(SYNTAX, start + enough + "^; end");
            fault(SYNTAX, start + enough + "1 ^1; end");
            for (int count = 1; count < es[i]; count++) {
                String less = times(count - 1, "1, ");
                fault(SYNTAX, start + less + "1^; end");
                fault(SYNTAX, start + less + "^; end");
                fault(SYNTAX, start + less + "^, 1; end");
                fault(SYNTAX, start + less + "1 ^1; end");
            }
        }
        fault(SYNTAX, "pattern p line ^1, 1, 1; end");
        fault(SYNTAX, "pattern p line ^-1, 1, 1; end");
        fault(SYNTAX, "pattern p line x^, 1, 1, 1; end");
        fault(SYNTAX, "pattern p wave ^z 1, 1; end");
        fault(SYNTAX, "pattern p wave x ^x, 1; end");
        fault(SYNTAX, "pattern p drop ^x 1, 1, 1, 1; end");
        fault(SYNTAX, "pattern p comb ^1 x, 1, 1, 1, 1; end");
    }

    // "with which no text goes on": what may follow what
    private static void grammar() {
        whole("pattern p if 1 == 1 else end end");
        fault(SYNTAX, "pattern p if 1 == 1 else ^else end end");
        fault(SYNTAX, "pattern p ^else end");
        fault(SYNTAX, "pattern p for i = 1 to 2 ^else end end");
        fault(SYNTAX, "pattern p if ^end end");
        fault(SYNTAX, "pattern p if 1 ^end end");
        fault(SYNTAX, "pattern p if 1 ^and 1 == 1 end end");
        fault(SYNTAX, "pattern p if 1 == 1 ^== 1 end end");
        fault(SYNTAX, "pattern p if 1 == 1 and ^end end");
        fault(SYNTAX, "pattern p if 1 == 1 or ^or 1 == 1 end end");
        fault(SYNTAX, "pattern p if 1 == 1 or 1 ^end end");
        fault(SYNTAX, "pattern p if (1 ^== 1) end end");
        whole("pattern p if (1) == (1) or 1 < 2 and 2 <= 3 or 1 != 1 end end");
        fault(SYNTAX, "pattern p for ^1 = 1 to 2 end end");
        fault(SYNTAX, "pattern p for i ^1 to 2 end end");
        fault(SYNTAX, "pattern p for i = ^to 2 end end");
        fault(SYNTAX, "pattern p for i = 1 ^2 end end");
        fault(SYNTAX, "pattern p for i = 1 to ^end end");
        fault(SYNTAX, "pattern p for i = 1 to 2^; end end");
        fault(SYNTAX, "pattern p for i = 1 to 2^, 3 end end");
        fault(SYNTAX, "pattern p end ^end");
        fault(SYNTAX, "pattern p^");
        fault(SYNTAX, "pattern^");
        fault(SYNTAX, "pattern ^pattern p end");
        fault(SYNTAX, "pattern p ^pattern q end end");
        fault(SYNTAX, "pattern p drop (1^, 1, 1, 1; end");
        fault(SYNTAX, "pattern p drop 1^), 1, 1, 1; end");
        fault(SYNTAX, "pattern p drop (^), 1, 1, 1; end");
        fault(SYNTAX, "pattern p drop -^, 1, 1, 1; end");
        fault(SYNTAX, "pattern p drop 1 + ^* 2, 1, 1, 1; end");
        String two = "pattern q end pattern r(a) end pattern s(a, b) end pattern p ";
        whole(two + "do q; do r(1); do s(1, 2); end");
        fault(SYNTAX, two + "do q(^); end");
        fault(SYNTAX, two + "do q;^; end");
        fault(SYNTAX, two + "do r(1,^); end");
        fault(SYNTAX, two + "do s(1,2^,3); end");
        fault(SYNTAX, two + "do q ^end");
        fault(SYNTAX, two + "do r(1^; end");
        fault(SYNTAX, two + "do ^1; end");
        fault(SYNTAX, two + "do r ^1; end");
        fault(SYNTAX, two + "do^; end");
    }

    // "a 9th pattern (at its first TOKEN)"
    private static void patternsAtMost() {
        StringBuilder text = new StringBuilder();
        for (int count = 1; count <= 8; count++) {
            String ahead = text.toString();
            fault(SYNTAX, ahead + "pattern^");
            text.append("pattern p").append((char) ('a' + count)).append(" end ");
            MarbleBath m = new MarbleBath();
            is("read of " + count + " patterns", Due.read(m, text.toString()), 0);
            is("so many", m.count(0), count);
            is("the last", m.run(count - 1, 0, 0), 0);
            is("behind the last", m.run(count, 0, 0), -1);
            is("parameters of the last", m.parameters(count - 1), 0);
            is("behind the last", m.parameters(count), -1);
        }
        String eight = text.toString();
        whole(eight + "  \n");
        fault(ROOM, eight + "^pattern q end");
        fault(ROOM, eight + "^pattern q end pattern r end");
        fault(ROOM, eight + "^pattern");
        fault(ROOM, eight + "^pattern end !");
        fault(SYNTAX, eight + "^patterns");
        fault(SYNTAX, eight + "^end");
        fault(SYNTAX, eight + "^; pattern q end");
    }

    // "a 7th for, if within one another .. (at it)"
    private static void nested() {
        String[] opens = {"if 1 == 1 ", "for %c = 1 to 2 ", "if 1 == 2 else "};
        for (int mix = 0; mix < 729; mix++) {
            StringBuilder text = new StringBuilder("pattern p ");
            int left = mix;
            for (int i = 0; i < 6; i++) {
                text.append(opens[left % 3].replace("%c", "" + (char) ('a' + i)));
                left /= 3;
            }
            String six = text.toString();
            whole(six + times(7, "end "));
            fault(ROOM, six + "^if 1 == 1 " + times(8, "end "));
            fault(ROOM, six + "^for g = 1 to 2 " + times(8, "end "));
            fault(ROOM, six + "^for");
            fault(SYNTAX, six + "wave ^if");
        }
        String six = "pattern p " + times(6, "if 1 == 1 ");
        String anew = six + "drop 1, 1, 1, 1; end if 1 == 1 ";
        whole(anew + times(7, "end "));
        fault(ROOM, anew + "^if 1 == 1 " + times(8, "end "));
        whole(six + "end if 1 == 1 end else for a = 1 to 1 end end " + times(5, "end "));
        fault(ROOM, six + "else ^if 1 == 1 " + times(8, "end "));
        whole(six + times(7, "end ") + six.replace(" p ", " q ") + times(7, "end "));
        whole(six + times(7, "end ") + six.replace(" p ", " q ") + "do p; " + times(7, "end "));
        whole("pattern p " + times(8, "if 1 == 1 end ") + "end");
    }

    // "a 7th ( or - ahead of a UNIT within one another (at it)"
    private static void nestedUnits() {
        String start = "pattern p(a) wave x ";
        for (int mix = 0; mix < 64; mix++) {
            StringBuilder open = new StringBuilder();
            StringBuilder close = new StringBuilder();
            for (int i = 0; i < 6; i++) {
                boolean minus = (mix >> i & 1) == 0;
                open.append(minus ? "-" : "(");
                close.append(minus ? "" : ")");
            }
            whole(start + open + "1" + close + ", 1; end");
            whole(start + open + "a" + close + " - 1, " + open + "1" + close + "; end");
            whole(start + open + "2 - 1 * 3" + close + " - (-1), 1; end");
            fault(ROOM, start + open + "^-1" + close + ", 1; end");
            fault(ROOM, start + open + "^(1)" + close + ", 1; end");
            fault(ROOM, start + open + "^-");
            fault(ROOM, start + open + "^(");
            fault(SYNTAX, start + open + "^)");
            fault(SYNTAX, start + open + "^+1" + close + ", 1; end");
            if (open.charAt(5) == '(') {
                fault(ROOM, start + open + "1 - ^-1" + close + ", 1; end");
                fault(ROOM, start + open + "1 * ^(1)" + close + ", 1; end");
            }
        }
        // a - that is behind its UNIT again is around nothing more
        whole(start + "------1 - -1, -1 - ------1; end");
        whole(start + "(((((-1 * -1 - -1))))), 1; end");
        fault(ROOM, start + "(((((-1 * -^-1))))), 1; end");
        whole(start + "1" + times(40, " - 1") + ", 1; end");
        whole(start + "1" + times(40, " - -1") + ", 1; end");
        whole(start + "(1)" + times(40, " * (1)") + ", 1; end");
        whole(start + "((((((1)))))) + ((((((1)))))) - ------1 * ------1, 1; end");
    }

    // the same wherever an E stands: the depth begins anew with each E
    private static void unitsEverywhere() {
        String start = "pattern q(a) end pattern r(a, b) end pattern p ";
        String[] heads = {"drop ", "drop 1, ", "drop 1, 1, 1, ", "line y ", "line x 1, 1, ", "comb x 1, ", "comb x 1, 1, 1, ",
            "comb y 1, 1, 1, 1, ", "wave y 1, ", "for i = ", "for i = 1 to ", "if ", "if 1 < ", "if 1 == 1 or ",
            "if 1 == 1 and 2 == ", "do q(", "do r(1, ", "do r("};
        String[] tails = {", 1, 1, 1;", ", 1, 1;", ";", ", 1, 1;", ";", ", 1, 1, 1;", ", 1;", ";", ";", " to 1 end", " end",
            " == 1 end", " end", " == 1 end", " end", ");", ");", ", 1);"};
        for (int i = 0; i < heads.length; i++) {
            String ahead = start + heads[i];
            whole(ahead + "-(-(-(1)))" + tails[i] + " end");
            whole(ahead + "------1 + ((((((1))))))" + tails[i] + " end");
            fault(ROOM, ahead + "-(-(-(^(1))))" + tails[i] + " end");
            fault(ROOM, ahead + "(-(-(-^-1)))" + tails[i] + " end");
            fault(SYNTAX, ahead + "1 ^1" + tails[i] + " end");
        }
    }

    // "a 501st TOKEN"
    private static void tokensAtMost() {
        // 3 + 7 + 3 * 163 + 1 tokens
        String just = "pattern q end pattern p(a, b) " + times(163, "do q; ") + "end";
        whole(just);
        whole(just + "   \n");
        fault(ROOM, just + " ^pattern");
        fault(ROOM, just + " ^pattern r end");
        fault(SYNTAX, just + " ^end");
        fault(SYNTAX, just + " ^!");
        fault(SYNTAX, just + " ^patterns");
        fault(SYNTAX, just + " ^12345");
        // 3 + 2 + 3 * 165 are 500
        String more = "pattern q end pattern p " + times(165, "do q; ");
        fault(ROOM, more + "^end");
        fault(SYNTAX, more + "^");
        fault(ROOM, more + "^drop");
        fault(ROOM, more + "^do nosuch;");
        fault(SYNTAX, more + "^to");
        whole(more.substring(0, more.length() - 6) + "end");
        StringBuilder eight = new StringBuilder();
        for (char name = 'a'; name < 'h'; name++) {
            eight.append("pattern ").append(name).append(" end ");
        }
        // 21 + 7 + 3 * 157 + 1 are 500: a ninth pattern's first token is the 501st
        eight.append("pattern h(p, q) ").append(times(157, "do a; ")).append("end ");
        whole(eight.toString());
        fault(ROOM, eight + "^pattern i end");
        fault(SYNTAX, eight + "^end");
    }

    /** Each kind of token as the 501st: there is no room for it, whatever follows; what does not go on is SYNTAX. */
    private static void lastTokens() {
        String tail = "wave x 2 + 3 , a ; drop 1 - 2 , - 3 , ( 4 ) , 5 * 6 ; line y 7 / 8 , b % 9 , 1 ; comb x 1 , 2 , 3 , 4 , 5 ; "
                + "for i = 1 to a do r ( 1 ) ; end if 1 == 2 and 3 != 4 or 5 < 6 do q ; else do s ( 1 , 2 ) ; end if 7 <= 8 end end "
                + "pattern t ( c , d ) end";
        String[] tokens = tail.split(" ");
        String head = "pattern q end pattern r(a) end pattern s(a, b) end pattern p(a, b) ";
        int headTokens = 3 + 6 + 8 + 7;
        for (int last = 0; last < tokens.length; last++) {
            int fill = 500 - headTokens - last;
            StringBuilder text = new StringBuilder(head);
            for (int left = fill % 3; left > 0; left--) {
                text.append("wave x -2, 1; ");
                fill -= 7;
            }
            text.append(times(fill / 3, "do q; "));
            for (int i = 0; i < last; i++) {
                text.append(tokens[i]).append(' ');
            }
            fault(ROOM, text + "^" + tokens[last] + " ");
            String rest = String.join(" ", java.util.Arrays.copyOfRange(tokens, last, tokens.length));
            fault(ROOM, text + "^" + rest);
            fault(SYNTAX, text + "^!");
            fault(SYNTAX, text + "^. " + rest);
            if (tokens[last].equals("pattern")) {
                whole(text.toString());
            } else {
                fault(SYNTAX, text + "^");
            }
        }
    }

    // "the first by its place .., of one place the least"
    private static void firstByPlace() {
        fault(SYNTAX, "pattern p ^!!");
        fault(SYNTAX, "pattern ^! pattern !");
        fault(ROOM, "pattern p wave x 1, -(-(-(^-(1! end");
        fault(SYNTAX, "pattern p wave x 1 ^! -------1; end");
        fault(ROOM, "pattern p wave x ------^-1; end");
        fault(SYNTAX, "pattern p wave x ------1^; wave x -------1, 1; end");
        fault(TWICE, "pattern p(a, ^a) drop b, 1, 1, 1; do q; end");
        fault(NAME, "pattern p drop ^b, 1, 1, 1; do q; end pattern p end");
        fault(NAME, "pattern p do ^q(zz); end");
        fault(WRONG, "pattern q end pattern p do ^q(zz); end");
        fault(NAME, "pattern q end pattern p wave x ^zz, 1; do q(1); end");
        fault(NAME, "pattern p drop ^b, c, 1, 1; end");
        fault(NAME, "pattern p for i = 1 to ^k for i = i to 2 end end end");
        fault(TWICE, "pattern p for i = 1 to 2 for ^i = i to k end end end");
        fault(NAME, "pattern p for i = ^i to 2 end end pattern p end");
    }

    // "If there is none, likewise": SYNTAX and ROOM anywhere come ahead of the others anywhere
    private static void syntaxAndRoomFirst() {
        String wrong = "pattern p(a, a) drop b, 1, 1, 1; do q; for a = 1 to 2 end end pattern p end ";
        fault(TWICE, "pattern p(a, ^" + wrong.substring(13));
        fault(SYNTAX, wrong + "^!");
        fault(SYNTAX, wrong + "pattern^");
        fault(ROOM, wrong + "pattern q wave x ------^-1, 1; end");
        fault(ROOM, wrong + "pattern q " + times(6, "if 1 == 1 ") + "^if 1 == 1 " + times(8, "end "));
        String eight = times(8, "pattern p end ");
        fault(TWICE, eight.substring(0, 22) + "^" + eight.substring(22));
        fault(ROOM, eight + "^pattern p end");
        // 2 + 3 * 166 are 500
        String many = "pattern p " + times(166, "do q; ");
        fault(ROOM, many + "^end");
        fault(SYNTAX, many + "^");
        fault(NAME, "pattern p do ^q; " + times(164, "do q; ") + "end");
    }

    // "3 TWICE: a pattern's NAME told already; a parameter's or a for's that is in reach already"
    private static void twice() {
        fault(TWICE, "pattern p end pattern ^p end");
        fault(TWICE, "pattern p end pattern q end pattern ^p end");
        fault(TWICE, "pattern p end pattern q end pattern ^q end");
        fault(TWICE, "pattern p end pattern q end pattern r end pattern s end pattern t end pattern u end pattern v end pattern ^p end");
        fault(TWICE, "pattern p end pattern q end pattern r end pattern s end pattern t end pattern u end pattern v end pattern ^v end");
        whole("pattern p end pattern q end pattern pq end");
        fault(TWICE, "pattern p(a, ^a) end");
        whole("pattern p(a, b) end pattern q(b, a) end pattern r(a) end");
        whole("pattern p(p) end pattern q(p, q) end");
        fault(TWICE, "pattern p(a) for ^a = 1 to 2 end end");
        fault(TWICE, "pattern p(a, b) for ^b = 1 to 2 end end");
        fault(TWICE, "pattern p(a, b) for ^a = 1 to 2 end end");
        whole("pattern p(a, b) for p = 1 to 2 end end");
        fault(TWICE, "pattern p for i = 1 to 2 for ^i = 1 to 2 end end end");
        fault(TWICE, "pattern p for i = 1 to 2 for j = 1 to 2 for ^i = 1 to 2 end end end end");
        whole("pattern p for i = 1 to 2 end for i = 1 to 2 end end");
        whole("pattern p for i = 1 to 2 for j = 1 to 2 end for j = 1 to 2 end end for j = 1 to 2 for i = 1 to 2 end end end");
        whole("pattern p if 1 == 1 for i = 1 to 2 end else for i = 1 to 2 end end end");
        fault(TWICE, "pattern p for i = 1 to 2 if 1 == 1 for ^i = 1 to 2 end end end end");
        fault(TWICE, "pattern p for i = 1 to 2 if 1 == 1 else for ^i = 1 to 2 end end end end");
        String six = "pattern p(a, b) for c = 1 to 1 for d = 1 to 1 for e = 1 to 1 for f = 1 to 1 for g = 1 to 1 for ";
        whole(six + "h = 1 to 1 drop a + b + c + d, e + f + g + h, 1, 1; " + times(7, "end "));
        for (char name = 'a'; name < 'h'; name++) {
            fault(TWICE, six + "^" + name + " = 1 to 1 " + times(7, "end "));
        }
    }

    // "4 NAME: no such one in reach"; "(in its own two Es it is not in reach)"
    private static void reach() {
        fault(NAME, "pattern p drop ^a, 1, 1, 1; end");
        fault(NAME, "pattern p drop ^p, 1, 1, 1; end");
        fault(NAME, "pattern q(a) end pattern p drop 1, 1, 1, ^a; end");
        fault(NAME, "pattern q for a = 1 to 2 end end pattern p if ^a == 1 end end");
        fault(NAME, "pattern p for i = ^i to 2 end end");
        fault(NAME, "pattern p for i = 1 to ^i end end");
        fault(NAME, "pattern p for i = 1 to 1 + (^i) end end");
        whole("pattern p for i = 1 to 2 drop i, i, i, i; end end");
        whole("pattern p for i = 1 to 2 for j = i to i if i == j end end end end");
        fault(NAME, "pattern p for i = 1 to 2 for j = i to ^j end end end");
        fault(NAME, "pattern p for i = 1 to 2 end drop ^i, 1, 1, 1; end");
        fault(NAME, "pattern p for i = 1 to 2 end for j = 1 to ^i end end");
        fault(NAME, "pattern p for i = 1 to 2 for j = 1 to 2 end drop i, ^j, 1, 1; end end");
        fault(NAME, "pattern p if 1 == 1 for i = 1 to 2 end wave x ^i, 1; end end");
        fault(NAME, "pattern p if 1 == 1 for i = 1 to 2 end else wave x ^i, 1; end end");
        fault(NAME, "pattern p for i = 1 to 2 do ^q(i); end end");
        fault(NAME, "pattern q(i) end pattern p for j = 1 to 2 do q(^i); end end");
        whole("pattern q(i) end pattern p for i = 1 to 2 do q(i); end end");
    }

    // "do's: no pattern told wholly ahead"
    private static void toldAhead() {
        fault(NAME, "pattern p do ^p; end");
        fault(NAME, "pattern p do ^q; end pattern q end");
        fault(NAME, "pattern p do ^q; end");
        whole("pattern p end pattern q do p; end");
        whole("pattern p end pattern q do p; end pattern r do p; do q; end");
        fault(NAME, "pattern p end pattern q do p; end pattern r do ^r; end");
        fault(NAME, "pattern p end pattern q do ^q; end");
        fault(NAME, "pattern p(a) if 1 < 2 do ^a; end end");
        MarbleBath m = new MarbleBath();
        is("read", Due.read(m, "pattern old end"), 0);
        is("of a text ahead", Due.read(m, "pattern p do old; end"), NAME);
        is("its place", m.place(), 13);
    }

    // "5 WRONG: at do's NAME: another number of Es than the pattern has parameters"
    private static void wrongNumbers() {
        String told = "pattern a end pattern b(p) end pattern c(p, q) end pattern d do ";
        String[] names = {"a", "b", "c"};
        String[] es = {"", "(1)", "(1, 2)"};
        for (int needs = 0; needs < 3; needs++) {
            for (int given = 0; given < 3; given++) {
                String text = told + names[needs] + es[given] + "; end";
                if (needs == given) {
                    whole(text);
                } else {
                    fault(WRONG, told + "^" + names[needs] + es[given] + "; end");
                }
            }
        }
    }

    // "A text with a FAULT changes nothing; else its PATTERNS are in place of those ahead."
    private static void faultsChangeNothing() {
        String[] faulty = {"pattern p", "pattern a end pattern b end pattern c wave x -------1, 1; end",
            "pattern a wave x 2, 9; end pattern a end", "pattern a wave x 2, 9; end pattern b do c; end",
            "pattern a wave x 2, 9; end pattern b do a(1); end"};
        for (int number = 1; number <= 5; number++) {
            MarbleBath m = new MarbleBath();
            is("read", Due.read(m, "pattern p(a) wave x a, 7; end pattern q do p(2); do p(3); end"), 0);
            is("fault", Due.read(m, faulty[number - 1]), number);
            is("two patterns", m.count(0), 2);
            is("the first one's parameter", m.parameters(0), 1);
            is("the second one's", m.parameters(1), 0);
            is("the second is done", m.run(1, 0, 0), 2);
            is("as it was told", m.number(1, 1), 3);
            is("as it was told", m.number(1, 2), 7);
            is("a whole text", Due.read(m, "pattern p wave x 9, 9; end"), 0);
            is("is in place", m.count(0), 1);
            is("it is done", m.run(0, 0, 0), 1);
            is("it", m.number(2, 1), 9);
            is("none behind it", m.run(1, 0, 0), -1);
        }
    }

    // "The byte of the latest read()'s FAULT; NONE without."
    private static void places() {
        MarbleBath m = new MarbleBath();
        is("ahead of any", m.place(), -1);
        Due.read(m, "pattern p !");
        is("the fault's", m.place(), 10);
        m.feed(1, 2, 3, 4, 5);
        is("it stays with a feed", m.place(), 10);
        m.back(20);
        is("and with a back", m.place(), 10);
        m.run(0, 0, 0);
        is("and with a run", m.place(), 10);
        Due.read(m, "!");
        is("the latest one's", m.place(), 0);
        Due.read(m, "pattern p end");
        is("none", m.place(), -1);
        Due.read(m, "p");
        is("0 is a byte", m.place(), 0);
        m.read();
        is("an empty text has none", m.place(), -1);
    }
}
