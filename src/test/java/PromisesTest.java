/** Each promise by itself: ordinary inputs, the edges that the document names, wrong inputs. */
public final class PromisesTest {
    private static final Due DUE = new Due();

    public static void main(String[] args) {
        newObject();
        tape();
        faults();
        places();
        room();
        roomInEachPlace();
        lateFaults();
        drops();
        drags();
        laysAndStrikes();
        fullLog();
        runs();
        doing();
        breaks();
        facts();
        colours();
        ways();
        homes();
        sheetsAndCells();
        middles();
        piecesAndEdges();
        made();
        rows();
        counts();
        DUE.end("PromisesTest");
    }

    private static void is(String call, int got, int want) {
        DUE.is(call, got, want);
    }

    /** The fault of a text on a new object, and its place. */
    private static void fault(String text, int number, int place) {
        MarbleBath m = new MarbleBath();
        is("read of " + text, Due.read(m, text), number);
        is("place of " + text, m.place(), number == 0 ? -1 : place);
        is("tape after " + text, m.count(3), 0);
    }

    private static String times(String part, int count) {
        return part.repeat(count);
    }

    // ---- promise 1
    private static void newObject() {
        MarbleBath m = new MarbleBath();
        is("1 NONE", MarbleBath.NONE, -1);
        is("1 patterns", m.count(0), 0);
        is("1 facts", m.count(1), 0);
        is("1 strokes", m.count(2), 0);
        is("1 tape", m.count(3), 0);
        is("1 place", m.place(), -1);
        is("1 broke", m.broke(), 0);
        is("1 where", m.where(), -1);
        is("1 rowed", m.rowed(0), -1);
        is("1 run", m.run(0, 0, 0), -1);
        is("1 kind", m.kind(0), -1);
        is("1 sheets", m.sheets(0), 0);
        is("1 colour", m.colour(0, 0, 0), -1);
    }

    // ---- promises 2, 3
    private static void tape() {
        MarbleBath m = new MarbleBath();
        is("3 back of nothing", m.back(0), 0);
        is("3 back of too many", m.back(1), -1);
        for (int i = 1; i <= 100; i++) {
            is("2 feed " + i, m.feed(538976288, 538976288, 538976288, 538976288, 538976288), 20 * i);
        }
        is("2 feed beyond 2000", m.feed(0, 0, 0, 0, 0), -1);
        is("2 nothing came", m.count(3), 2000);
        is("3 back below 0", m.back(-1), -1);
        is("3 back least", m.back(Integer.MIN_VALUE), -1);
        is("3 back greatest", m.back(Integer.MAX_VALUE), -1);
        is("3 back 2001", m.back(2001), -1);
        is("3 nothing went", m.count(3), 2000);
        is("3 back 19", m.back(19), 1981);
        is("2 no room for twenty", m.feed(0, 0, 0, 0, 0), -1);
        is("3 back 1", m.back(1), 1980);
        is("2 just room", m.feed(0, 0, 0, 0, 0), 2000);
        is("3 back all", m.back(2000), 0);
        is("2 in order", m.feed(0x70617474, 0x65726e20, 0x7020656e, 0x64202121, 0x20202020), 20);
        is("4 the highest byte first", m.read(), 1);
        is("5 at the first !", m.place(), 14);
        m.feed(0x70617474, 0x65726e20, 0x7020656e, 0x64202121, 0x20202020);
        is("3 the last go", m.back(6), 14);
        is("4 what is left is whole", m.read(), 0);
        is("4 the tape is empty", m.count(3), 0);
        is("5 none", m.place(), -1);
    }

    // ---- promises 4, 5
    private static void faults() {
        fault("", 0, 0);
        fault(" \t\n\r", 0, 0);
        fault("pattern p end", 0, 0);
        fault("pattern p end pattern q(a) end pattern r(a, b) end", 0, 0);
        fault("pattern p(a,b)drop a,b,1,2;line x 1,2,3;comb y 1,2,3,4,5;wave x 1,2;end", 0, 0);
        fault("pattern p for i=1to 2for j=i to 3if i==j drop i,j,1,1;else end end end end", 0, 0);
        fault("pattern p if 1==1or 2!=3and 4<5or 6<=7 end end pattern q do p;end", 0, 0);
        fault("pattern p(a) end pattern q do p(1); end pattern r(a,b) do p(a+b); do q; end", 0, 0);
        fault("pattern p drop -1, --1, -(1), 1--1; end", 0, 0);
        fault("pattern abcdefgh end", 0, 0);
        fault("pattern a1b2c3d4 drop 9999, 0000, 1, 1; end", 0, 0);
        fault("pattern pp drop 1drop,1,1,1; end", 1, 17);
        fault("pattern ends end", 0, 0);
        fault("pattern xy(yx) drop yx, 1, 1, 1; end", 0, 0);
        fault("pattern p(p) drop p, 1, 1, 1; end", 0, 0);
        MarbleBath m = new MarbleBath();
        Due.read(m, "pattern p end pattern q end");
        is("4 a fault changes nothing", Due.read(m, "pattern p"), 1);
        is("4 patterns as they were", m.count(0), 2);
        is("5 place of it", m.place(), 9);
        is("4 other patterns in place", Due.read(m, "pattern z(a, b) end"), 0);
        is("4 one pattern", m.count(0), 1);
        is("15 of two", m.parameters(0), 2);
        is("5 none again", m.place(), -1);
        is("4 no text, no patterns", m.read(), 0);
        is("4 none left", m.count(0), 0);
    }

    private static void places() {
        fault("p", 1, 0);
        fault("pattern", 1, 7);
        fault("pattern  ", 1, 9);
        fault("pattern;", 1, 7);
        fault("pattern p", 1, 9);
        fault("pattern p end end", 1, 14);
        fault("pattern x end", 1, 8);
        fault("pattern y end", 1, 8);
        fault("pattern or end", 1, 8);
        fault("pattern 1 end", 1, 8);
        fault("pattern p() end", 1, 10);
        fault("pattern p(a b) end", 1, 12);
        fault("pattern p(a, b, c) end", 1, 14);
        fault("pattern p(x) end", 1, 10);
        fault("pattern abcdefghi end", 1, 8);
        fault("pattern p drop 12345,1,1,1; end", 1, 15);
        fault("pattern p drop 1,1,1; end", 1, 20);
        fault("pattern p drop 1,1,1,1,1; end", 1, 22);
        fault("pattern p drop 1,1,1,1 end", 1, 23);
        fault("pattern p line 1,2,3; end", 1, 15);
        fault("pattern p line x,1,2,3; end", 1, 16);
        fault("pattern p wave x 1,2,3; end", 1, 20);
        fault("pattern p wave y 1; end", 1, 18);
        fault("pattern p comb x 1,2,3,4; end", 1, 24);
        fault("pattern p else end", 1, 10);
        fault("pattern p for 1 = 1 to 2 end end", 1, 14);
        fault("pattern p for i == 1 to 2 end end", 1, 16);
        fault("pattern p for i = 1, 2 end end", 1, 19);
        fault("pattern p for i = 1 to 2 else end end", 1, 25);
        fault("pattern p if 1 end end", 1, 15);
        fault("pattern p if 1 = 1 end end", 1, 15);
        fault("pattern p if 1 < 2 < 3 end end", 1, 19);
        fault("pattern p if (1 < 2) end end", 1, 16);
        fault("pattern p if 1 < 2 else else end end", 1, 24);
        fault("pattern p do; end", 1, 12);
        fault("pattern p do q end", 1, 15);
        fault("pattern p do q(); end", 1, 15);
        fault("pattern p do q(1, 2, 3); end", 1, 19);
        fault("pattern p drop +1, 1, 1, 1; end", 1, 15);
        fault("pattern p drop (1, 1, 1, 1; end", 1, 17);
        fault("pattern p if 1 ! = 2 end end", 1, 15);
        fault("pattern p if 1 > 2 end end", 1, 15);
        fault("pattern p end .", 1, 14);
        fault("pattern p end @", 1, 14);
        fault("pattern p end \u0000", 1, 14);
        fault("pattern p end \u000b", 1, 14);
        fault("pattern p end \u00e9", 1, 14);
        fault("Pattern p end", 1, 0);
        fault("pattern pQ end", 1, 9);
        fault("patternp end", 1, 0);
        fault("pattern p do nosuch; drop", 1, 25);
    }

    private static void room() {
        fault(times("pattern p end ", 8), 3, 22);
        fault(times("pattern p end ", 9), 2, 8 * 14);
        String eight = "pattern a end pattern b end pattern c end pattern d end "
                + "pattern e end pattern f end pattern g end pattern h end ";
        fault(eight, 0, 0);
        fault(eight + "pattern i end", 2, eight.length());
        fault(eight + "pattern", 2, eight.length());
        fault(eight + "end", 1, eight.length());
        String six = times("if 1==1 ", 3) + "for i=1 to 2 for j=1 to 2 for k=1 to 2 ";
        fault("pattern p " + six + times("end ", 6) + "end", 0, 0);
        fault("pattern p " + six + times("end ", 6) + six + times("end ", 7), 0, 0);
        fault("pattern p " + six + "if 1==1" + times(" end", 8), 2, 10 + six.length());
        fault("pattern p " + six + "for q = 1 to 1" + times(" end", 8), 2, 10 + six.length());
        String others = times("if 1==1 else ", 6);
        fault("pattern p " + others + times("end ", 7), 0, 0);
        fault("pattern p " + others + "if 1==1 end" + times(" end", 7), 2, 10 + others.length());
        fault("pattern p drop ((((((1)))))), ------1, -(-(-(1)))+((((((2)))))), 1; end", 0, 0);
        fault("pattern p drop (((((((1))))))), 1, 1, 1; end", 2, 21);
        fault("pattern p drop -------1, 1, 1, 1; end", 2, 21);
        fault("pattern p drop -(-(-(-1))), 1, 1, 1; end", 2, 21);
        fault("pattern p drop (1-(1-(1-(1-(1-(1-1)))))), 1, 1, 1; end", 0, 0);
        fault("pattern p drop (1-(1-(1-(1-(1-(1- -1)))))), 1, 1, 1; end", 2, 34);
        // 3 + 2 + 3 * 164 = 497 tokens; 'if 1 ==' fills up 500, so that the second 1 is one too many
        String q = "pattern q end ";
        String deeds = q + "pattern p " + times("do q;", 164);
        fault(deeds + "if 1==", 1, deeds.length() + 6);
        fault(deeds + "if 1==1", 2, deeds.length() + 6);
        fault(deeds + "if 1== 1 end end", 2, deeds.length() + 7);
        fault(deeds + "if 1== ; end end", 1, deeds.length() + 7);
        fault(deeds + "end", 0, 0);
        fault(deeds + "do q end", 1, deeds.length() + 5);
        String full = q + "pattern pp(a) " + times("do q;", 164);
        fault(full + "end", 2, full.length());
        fault(full + "!", 1, full.length());
        fault(full, 1, full.length());
        // 3 + 7 + 3 * 163 + 1 = 500
        fault("pattern q end pattern p(a,b)" + times("do q;", 163) + "end", 0, 0);
        fault("pattern q end pattern p(a,b)" + times("do q;", 163) + "end end", 1, 14 + 14 + 5 * 163 + 4);
        fault("pattern q end pattern p(a,b)" + times("do q;", 163) + "end pattern", 2, 14 + 14 + 5 * 163 + 4);
    }

    /** Six within one another are told, seven are not, wherever an E stands. */
    private static void roomInEachPlace() {
        String[] heads = {"drop ", "drop 1, 1, 1, ", "line x ", "comb y 1, 2, ", "wave x 7, ", "for i = ", "for i = 1 to ",
            "if ", "if 1 == ", "if 1 == 1 and ", "if 1 == 1 or 2 < ", "do p(", "do p(1, "};
        String[] tails = {", 1, 1, 1;", ";", ", 1, 1;", ", 4, 5;", ";", " to 3 end", " end",
            " == 1 end", " end", " <= 1 end", " end", ", 1);", ");"};
        String start = "pattern p(a, b) end pattern q(c) ";
        for (int i = 0; i < heads.length; i++) {
            String ahead = start + heads[i];
            fault(ahead + "((-(-(c)))) * -(((((c)))))" + tails[i] + " end", 0, 0);
            fault(ahead + "((-((-((c))))))" + tails[i] + " end", 2, ahead.length() + 6);
            fault(ahead + "c + -(-(-(-c)))" + tails[i] + " end", 2, ahead.length() + 10);
            fault(ahead + "c c" + tails[i] + " end", 1, ahead.length() + 2);
        }
    }

    private static void lateFaults() {
        fault("pattern p end pattern p end", 3, 22);
        fault("pattern p(a, a) end", 3, 13);
        fault("pattern p(a) for a = 1 to 2 end end", 3, 17);
        fault("pattern p for i=1 to 2 for i=1 to 2 end end end", 3, 27);
        fault("pattern p for i=1 to 2 end for i=1 to 2 end end", 0, 0);
        fault("pattern p(i) end pattern q for i=1 to 2 end end", 0, 0);
        fault("pattern p drop a, 1, 1, 1; end", 4, 15);
        fault("pattern p for i = i to 2 end end", 4, 18);
        fault("pattern p for i = 1 to i end end", 4, 23);
        fault("pattern p for i=1 to 2 end drop i,1,1,1; end", 4, 32);
        fault("pattern p(a) end pattern q drop a,1,1,1; end", 4, 32);
        fault("pattern p do p; end", 4, 13);
        fault("pattern p do q; end pattern q end", 4, 13);
        fault("pattern p end pattern q do p(1); end", 5, 27);
        fault("pattern p(a) end pattern q do p; end", 5, 30);
        fault("pattern p(a) end pattern q do p(1, 2); end", 5, 30);
        fault("pattern p(a, b) end pattern q do p(1); end", 5, 33);
        fault("pattern p(a, b) end pattern q do p(1, zz); end", 4, 38);
        fault("pattern p(a) end pattern q do p(zz, 1); end", 5, 30);
        fault("pattern p drop zz, 1, 1, 1; end pattern p end", 4, 15);
        fault("pattern p do p; end pattern p end pattern q end;", 1, 47);
        fault("pattern p drop p, 1, 1, 1; end", 4, 15);
        MarbleBath m = new MarbleBath();
        Due.read(m, "pattern old end");
        is("4 what was ahead is not in reach", Due.read(m, "pattern q do old; end"), 4);
        is("4 old ones stay", m.count(0), 1);
        is("4 an older name is free", Due.read(m, "pattern old(a) end"), 0);
    }

    // ---- promises 6, 7, 8, 9, 10
    private static void drops() {
        MarbleBath m = new MarbleBath();
        is("6 drop", m.drop(0, 0, 1, 0), 0);
        is("6 greatest", m.drop(1023, 1023, 512, 7), 1);
        int[][] wrong = {{-1, 0, 1, 0}, {0, -1, 1, 0}, {1024, 0, 1, 0}, {0, 1024, 1, 0}, {0, 0, 0, 0}, {0, 0, 513, 0},
            {0, 0, 1, -1}, {0, 0, 1, 8}, {Integer.MIN_VALUE, 0, 1, 0}, {0, 0, Integer.MAX_VALUE, 0}};
        for (int[] w : wrong) {
            is("6 wrong drop", m.drop(w[0], w[1], w[2], w[3]), -1);
        }
        is("6 nothing happened", m.count(1), 2);
        is("7 line", m.line(0, 0, -1023, 1), 2);
        is("7 greatest", m.line(1, 1023, 1023, 1023), 3);
        int[][] lines = {{-1, 0, 0, 1}, {2, 0, 0, 1}, {0, -1, 0, 1}, {0, 1024, 0, 1}, {0, 0, -1024, 1}, {0, 0, 1024, 1},
            {0, 0, 0, 0}, {0, 0, 0, 1024}, {0, 0, Integer.MIN_VALUE, 1}};
        for (int[] w : lines) {
            is("7 wrong line", m.line(w[0], w[1], w[2], w[3]), -1);
        }
        is("8 comb", m.comb(0, 0, 1, 1, -1023, 1), 4);
        is("8 greatest", m.comb(1, 1023, 1023, 20, 1023, 1023), 5);
        int[][] combs = {{-1, 0, 1, 1, 0, 1}, {2, 0, 1, 1, 0, 1}, {0, -1, 1, 1, 0, 1}, {0, 1024, 1, 1, 0, 1},
            {0, 0, 0, 1, 0, 1}, {0, 0, 1024, 1, 0, 1}, {0, 0, 1, 0, 0, 1}, {0, 0, 1, 21, 0, 1}, {0, 0, 1, 1, -1024, 1},
            {0, 0, 1, 1, 1024, 1}, {0, 0, 1, 1, 0, 0}, {0, 0, 1, 1, 0, 1024}};
        for (int[] w : combs) {
            is("8 wrong comb", m.comb(w[0], w[1], w[2], w[3], w[4], w[5]), -1);
        }
        is("9 wave", m.wave(0, 2, -1023), 6);
        is("9 greatest", m.wave(1, 1024, 1023), 7);
        int[][] waves = {{-1, 2, 0}, {2, 2, 0}, {0, 1, 0}, {0, 1025, 0}, {0, 2, -1024}, {0, 2, 1024}, {0, 0, 0}};
        for (int[] w : waves) {
            is("9 wrong wave", m.wave(w[0], w[1], w[2]), -1);
        }
        is("10 lay", m.lay(0), 8);
        is("10 greatest", m.lay(63), 9);
        is("10 wrong", m.lay(-1), -1);
        is("10 wrong", m.lay(64), -1);
        is("all that was told", m.count(1), 10);
    }

    /** Where a point comes from through one drag, with nothing else in the bath. */
    private static void drags() {
        MarbleBath m = new MarbleBath();
        m.line(0, 100, 64, 10);
        is("7 at the line", m.from(500, 100, 1, 1), 436);
        is("7 nine off: no halving", m.from(500, 109, 1, 1), 436);
        is("7 ten off: one", m.from(500, 90, 1, 1), 468);
        is("7 sixty off: six", m.from(500, 160, 1, 1), 499);
        is("7 seventy off: none left", m.from(500, 170, 1, 1), 500);
        is("7 far off", m.from(500, 1023, 1, 1), 500);
        is("7 the other coordinate stays", m.from(500, 100, 1, 2), 100);
        is("7 forth", m.to(500, 90, 1, 0), 532);
        m.strike(0);
        m.line(1, 100, -7, 10);
        is("7 along y", m.from(100, 500, 3, 2), 507);
        is("7 halved towards 0", m.from(110, 500, 3, 2), 503);
        is("7 and again", m.from(80, 500, 3, 2), 501);
        is("7 and it is 0", m.from(130, 500, 3, 2), 500);
        is("7 along y forth", m.to(100, 500, 3, 1), 493);
        m.strike(2);
        m.comb(0, 1000, 10, 3, 16, 5);
        is("8 teeth at 1000, 1010, 1020: 16 + 4 + 1", m.from(500, 1000, 5, 1), 479);
        is("8 4 + 16 + 4", m.from(500, 1010, 5, 1), 476);
        is("8 5 off: 8 + 8 + 2", m.from(500, 1005, 5, 1), 482);
        m.strike(4);
        m.comb(1, 1023, 1023, 20, 1023, 1023);
        is("8 teeth beyond the bath: 511 + 255 + 127 + .. + 1", m.from(0, 1023, 7, 2), 10);
        is("8 1023 + 511 + 255 + .. at the first one", m.from(1023, 1023, 7, 2), -1);
        m.strike(6);
        m.wave(0, 100, 30);
        is("9 at 0", m.from(500, 0, 9, 1), 500);
        is("9 at 50: 30 * 50 / 100", m.from(500, 50, 9, 1), 485);
        is("9 at 51: from 100", m.from(500, 51, 9, 1), 486);
        is("9 at 100", m.from(500, 100, 9, 1), 500);
        is("9 at 175: 30 * 25 / 100", m.from(500, 175, 9, 1), 493);
        is("9 forth", m.to(500, 175, 9, 0), 507);
        m.strike(8);
        m.wave(1, 1024, -1023);
        is("9 from 1024, which is beyond", m.from(1000, 500, 11, 2), 523);
        is("9 rounded towards 0", m.from(1023, 500, 11, 2), 500);
    }

    // ---- promises 10, 11, 18
    private static void laysAndStrikes() {
        MarbleBath m = new MarbleBath();
        is("11 nothing to strike", m.strike(0), -1);
        m.drop(100, 100, 50, 1);
        m.lay(5);
        is("11 a stroke", m.strike(0), 2);
        is("11 a lay", m.strike(1), 3);
        is("11 a strike", m.strike(2), -1);
        is("11 none such", m.strike(4), -1);
        is("11 below 0", m.strike(-1), -1);
        is("11 once more", m.strike(0), 4);
        is("11 facts", m.count(1), 5);
        is("18 not yet", m.struck(0, 2), 0);
        is("18 since then", m.struck(0, 3), 1);
        is("18 the lay not yet", m.struck(1, 3), 0);
        is("18 the lay", m.struck(1, 4), 1);
        is("18 a strike is not", m.struck(2, 5), 0);
        is("18 not among them", m.struck(2, 2), -1);
        is("18 not among none", m.struck(0, 0), -1);
        is("18 no such n", m.struck(0, 6), -1);
        is("18 no such n", m.struck(0, -1), -1);
        is("18 below 0", m.struck(-1, 3), -1);
        is("19 it floats as known ahead", m.colour(100, 100, 1), 1);
        is("19 it is laid", m.colour(100, 100, 2), -1);
        is("19 it is struck and laid", m.colour(100, 100, 3), -1);
        is("19 nothing is left", m.colour(100, 100, 4), -1);
    }

    private static void fullLog() {
        MarbleBath m = new MarbleBath();
        Due.read(m, "pattern p(a) for i = 1 to a drop i, i, 1, 1; end end");
        for (int i = 0; i < 118; i++) {
            is("6 drop " + i, m.drop(i, i, 2, 1), i);
        }
        is("12 three are too many", m.run(0, 3, 0), -2);
        is("13 no room", m.broke(), 4);
        is("14 at the drop", m.where(), 28);
        is("12 nothing happened", m.count(1), 118);
        is("12 none is always right", m.run(0, 0, 0), 0);
        is("12 two are right", m.run(0, 2, 0), 2);
        is("12 the log is full", m.count(1), 120);
        is("6 full", m.drop(1, 1, 1, 1), -1);
        is("7 full", m.line(0, 1, 1, 1), -1);
        is("8 full", m.comb(0, 1, 1, 1, 1, 1), -1);
        is("9 full", m.wave(0, 2, 1), -1);
        is("10 full", m.lay(1), -1);
        is("11 full", m.strike(1), -1);
        is("12 one is too many", m.run(0, 1, 0), -2);
        is("12 none is right", m.run(0, 0, 0), 0);
        is("16 the last", m.kind(119), 0);
        is("16 behind it", m.kind(120), -1);
        is("35 all", m.count(1), 120);
        is("35 all of them float", m.count(2), 120);
        MarbleBath last = new MarbleBath();
        for (int i = 0; i < 119; i++) {
            last.wave(0, 2, 0);
        }
        is("6 the 120th", last.drop(700, 300, 20, 5), 119);
        is("19 of the 120th", last.colour(700, 300, 120), 5);
        is("20 the 120th", last.from(700, 300, 120, 0), 119);
        is("21 by the 120th", last.to(700, 300, 120, 0), 720);
    }

    // ---- promises 12, 13, 14, 15
    private static void runs() {
        MarbleBath m = new MarbleBath();
        is("4", Due.read(m, "pattern p(a, b) drop a, b, 1, 1; line y a, -b, 5; end "
                + "pattern q(n) for i = n to n + 2 for j = 1 to i do p(i, j * 2); end end end "
                + "pattern r if 1 < 2 and 2 < 1 drop 1,1,1,1; else wave x 2 + 3 * 4, -(5 - 7) % 2; end end "
                + "pattern s comb x 7 / 2, 9 % 4, 1 + 1 * 2, 7 - 2 - 3, 100 / 7 / 2; end "
                + "pattern t for i = 2147 * 1000 * 1000 + 483 * 1000 + 646 to 2147 * 1000 * 1000 + 483 * 1000 + 647 "
                + "drop 1, 1, 1, 1; end end "
                + "pattern u(a) if a != 0 and 10 / a == 5 or a == 7 drop a, 0, 1, 0; end end"), 0);
        is("12 none such", m.run(6, 0, 0), -1);
        is("12 none such", m.run(-1, 0, 0), -1);
        is("15", m.parameters(0), 2);
        is("15", m.parameters(1), 1);
        is("15", m.parameters(2), 0);
        is("15 none such", m.parameters(6), -1);
        is("15 none such", m.parameters(-1), -1);
        is("12 p", m.run(0, 3, 4), 2);
        is("16", m.kind(0), 0);
        is("17", m.number(0, 0), 3);
        is("17", m.number(0, 1), 4);
        is("16", m.kind(1), 1);
        is("17 axis y", m.number(1, 0), 1);
        is("17 at", m.number(1, 1), 3);
        is("17 by", m.number(1, 2), -4);
        is("12 q: 1 + 2 + 3 times two", m.run(1, 1, 99), 12);
        is("17 the last at 3, 6", m.number(12, 1), 6);
        is("12 r", m.run(2, 5, 5), 1);
        is("16", m.kind(14), 3);
        is("17", m.number(14, 1), 14);
        is("17 -(5 - 7) % 2", m.number(14, 2), 0);
        is("12 s", m.run(3, 0, 0), 1);
        is("17 7 / 2", m.number(15, 1), 3);
        is("17 9 % 4", m.number(15, 2), 1);
        is("17 1 + 1 * 2", m.number(15, 3), 3);
        is("17 7 - 2 - 3", m.number(15, 4), 2);
        is("17 100 / 7 / 2", m.number(15, 5), 7);
        is("12 t: up to the greatest int", m.run(4, 0, 0), 2);
        is("12 u 0: no more than is needed", m.run(5, 0, 0), 0);
        is("12 u 2", m.run(5, 2, 0), 1);
        is("12 u 7", m.run(5, 7, 0), 1);
        is("12 u 3", m.run(5, 3, 0), 0);
        is("13 none broke", m.broke(), 0);
        is("14 none broke", m.where(), -1);
    }

    private static void doing() {
        MarbleBath m = new MarbleBath();
        is("4", Due.read(m, "pattern a(p, q) for c = 1 to 2 for d = 3 to 4 for e = 5 to 6 for f = 7 to 8 "
                + "for g = 9 to 10 for h = 11 to 12 if c + d + e + f + g + h == p drop c * 100 + d * 10 + e, "
                + "f * 100 + g * 10 + h, p, q; end end end end end end end end"), 2);
        is("4", Due.read(m, "pattern a(p, q) for c = 1 to 2 for d = 3 to 4 for e = 5 to 6 for f = 7 to 8 "
                + "for g = 9 to 10 for h = 11 to 12 drop c * 100 + d * 10 + e, f * 50 + g * 10 + h, "
                + "p, q / (c - 1 + 8 - f) % 8; end end end end end end end"), 0);
        is("12 eight names in reach: 64 drops, but f is 8 at the second", m.run(0, 7, 9), -2);
        is("13", m.broke(), 3);
        is("12 and with p, q of the last", m.run(0, 513, 9), -2);
        is("13", m.broke(), 2);
        String chain = "pattern a(p, q) drop p, q, 1, 1; end pattern b(p) do a(p, 1); drop p, 2, 1, 1; end "
                + "pattern c(q) do b(q * 2); drop q, 3, 1, 1; end pattern d for i = 1 to 2 do c(i); "
                + "drop i, 4, 1, 1; end end pattern e for i = 7 to 8 do d; drop i, 5, 1, 1; end end "
                + "pattern f(p, q) do e; drop p, q, 1, 1; end pattern g(q, p) do f(q, p); drop q, p, 1, 2; end "
                + "pattern h(p) do g(p, p + 1); drop p, 8, 1, 3; end";
        is("4", Due.read(m, chain), 0);
        is("12 each frame has its own names", m.run(7, 20, 0), 21);
        int[][] want = {{2, 1}, {2, 2}, {1, 3}, {1, 4}, {4, 1}, {4, 2}, {2, 3}, {2, 4}, {7, 5},
            {2, 1}, {2, 2}, {1, 3}, {1, 4}, {4, 1}, {4, 2}, {2, 3}, {2, 4}, {8, 5}, {20, 21}, {20, 21}, {20, 8}};
        for (int i = 0; i < want.length; i++) {
            is("17 x of " + i, m.number(i, 0), want[i][0]);
            is("17 y of " + i, m.number(i, 1), want[i][1]);
        }
        String[] holds = {"2 < 3", "2 <= 2", "2 <= 3", "2 == 2", "2 != 3", "1 == 2 or 2 == 2", "-1 < 0", "-7 / 2 == -3",
            "-7 % 3 == -1", "7 % -3 == 1", "2 - 3 < 0", "1 == 1 or 1 == 2 and 1 == 2", "1 == 2 and 1 == 1 or 3 == 3",
            "1 + 2 * 3 == 7", "(1 + 2) * 3 == 9", "8 - 3 - 2 == 3", "- 2 + 5 == 3", "5 - -2 == 7", "2 * -3 == -6",
            "1 == 1 or 1 / 0 == 1 and 1 / 0 == 1", "1 != 2 and 2 != 3 and 3 != 4", "7 - 7 / 7 * 7 == 0",
            "1 == 2 and 1 / 0 == 1 and 1 / 0 == 1 or 1 == 1", "9999 == 9999", "100 % 7 / 2 == 1"};
        String[] fails = {"3 < 2", "2 < 2", "3 <= 2", "2 == 3", "2 != 2", "1 == 2 or 2 == 3", "1 == 2 and 1 / 0 == 1",
            "1 == 1 and 1 == 2", "1 == 2 and 1 == 1", "1 == 2 or 1 == 1 and 1 == 2", "1 == 1 and 1 == 1 and 1 == 2"};
        for (String each : holds) {
            is("4", Due.read(m, "pattern a if " + each + " wave x 2, 0; else wave x 1, 0; end end"), 0);
            is("12 holds: " + each, m.run(0, 0, 0), 1);
        }
        for (String each : fails) {
            is("4", Due.read(m, "pattern a if " + each + " wave x 1, 0; end end"), 0);
            is("12 does not hold: " + each, m.run(0, 0, 0), 0);
        }
    }

    private static void breaks() {
        MarbleBath m = new MarbleBath();
        String text = "pattern a for i = 1 to 1999 end end "
                + "pattern b for i = 1 to 2000 end end "
                + "pattern c for i = 1 to 999 if 1 == 1 end end end "
                + "pattern d for i = 1 to 1000 if 1 == 1 end end end "
                + "pattern e drop 1, 1, 1, 8 / (1 - 1) + 99999 / 0; end";
        text = text.replace("99999", "9999");
        is("4", Due.read(m, text), 0);
        is("12 the 2000th", m.run(0, 0, 0), 0);
        is("12 the 2001st: a turn", m.run(1, 0, 0), -2);
        is("13", m.broke(), 1);
        is("14 at the for", m.where(), text.indexOf("for i = 1 to 2000"));
        is("12 1 + 999 * 2", m.run(2, 0, 0), 0);
        is("12 1 + 1000 * 2", m.run(3, 0, 0), -2);
        is("13", m.broke(), 1);
        is("14 at the if", m.where(), text.indexOf("if 1 == 1 end end end pattern e"));
        is("12 by 0", m.run(4, 0, 0), -2);
        is("13", m.broke(), 3);
        is("14", m.where(), text.indexOf("drop"));
        text = "pattern a(n) do nothing; end";
        is("4 fault", Due.read(m, text), 4);
        is("13 stays", m.broke(), 3);
        text = "pattern a(n) drop n, n % 0, 1, 1; end pattern b(n) do a(n); end "
                + "pattern c for i = 5 % 0 to 1 / 0 end end pattern d if 1 % 0 == 1 end end "
                + "pattern e(n) drop 1, 1, 1, n; line x 1, 1, n; wave x n, n; comb y 1, 1, n, 1, 1; end "
                + "pattern f do e(1 / 0); end pattern g(n) do e(n); end";
        is("4", Due.read(m, text), 0);
        is("12 3 ahead of 2", m.run(1, 9999, 0), -2);
        is("13", m.broke(), 3);
        is("14 in the pattern that is done", m.where(), text.indexOf("drop n"));
        is("12", m.run(2, 0, 0), -2);
        is("14 for", m.where(), text.indexOf("for i"));
        is("12", m.run(3, 0, 0), -2);
        is("14 if", m.where(), text.indexOf("if 1"));
        is("12", m.run(5, 0, 0), -2);
        is("14 do", m.where(), text.indexOf("do e(1"));
        is("12 a colour", m.run(4, 8, 0), -2);
        is("13", m.broke(), 2);
        is("14 the drop", m.where(), text.indexOf("drop 1"));
        is("12 half 0", m.run(6, 0, 0), -2);
        is("14 the line", m.where(), text.indexOf("line"));
        is("12 period 1", m.run(6, 1, 0), -2);
        is("14 the wave", m.where(), text.indexOf("wave"));
        is("12 whole", m.run(6, 2, 0), 4);
        is("13 stays", m.broke(), 2);
        is("14 stays", m.where(), text.indexOf("wave"));
        is("4", Due.read(m, ""), 0);
        is("14 stays with no text", m.where(), text.indexOf("wave"));
        is("12 none left", m.run(0, 0, 0), -1);
        wholeIsLooked();
    }

    /** 1 ahead of 3, 3 ahead of 2, 2 ahead of 4. */
    private static void wholeIsLooked() {
        MarbleBath m = new MarbleBath();
        String text = "pattern a for i = 1 to 1999 end drop 1 / 0, 1, 1, 9; end "
                + "pattern b for i = 1 to 120 drop 1, 1, 1, 1; end drop 1, 1, 0, 1; end "
                + "pattern c for i = 1 to 120 drop 1, 1, 1, 1; end drop 1, 1, 1, 1; end "
                + "pattern d(n) drop 9999, 9999, n / 0, 1; end "
                + "pattern e if 1 == 2 and 1 / 0 == 1 or 2 < 2 or 2 <= 1 + 1 drop 5, 5, 5, 5; end end";
        is("4", Due.read(m, text), 0);
        is("12", m.run(0, 0, 0), -2);
        is("13 1 ahead of 3", m.broke(), 1);
        is("12", m.run(1, 0, 0), -2);
        is("13 2 ahead of 4", m.broke(), 2);
        is("12", m.run(2, 0, 0), -2);
        is("13 4", m.broke(), 4);
        is("14 4", m.where(), text.indexOf("drop 1, 1, 1, 1; end pattern d"));
        is("12", m.run(3, 5, 0), -2);
        is("13 3 ahead of 2", m.broke(), 3);
        is("12", m.run(4, 0, 0), 1);
        is("12 ints wrap", Due.read(m, "pattern w drop 9999 * 9999 * 9999 % 1000 + 1000, "
                + "(0 - 2147 * 1000 * 1000 - 483 * 1000 - 648) / -1 % 1000 + 700, 1, 1; end"), 0);
        is("12", m.run(0, 0, 0), 1);
        is("17 9999 cubed is -1027349969", m.number(1, 0), -969 + 1000);
        is("17 the least int by -1 stays", m.number(1, 1), -648 + 700);
    }

    // ---- promises 16, 17
    private static void facts() {
        MarbleBath m = new MarbleBath();
        m.drop(1, 2, 3, 4);
        m.line(1, 2, -1, 4);
        m.comb(0, 1, 2, 3, 4, 5);
        m.wave(1, 20, -3);
        m.lay(33);
        m.strike(4);
        int[][] want = {{1, 2, 3, 4}, {1, 2, -1, 4}, {0, 1, 2, 3, 4, 5}, {1, 20, -3}, {33}, {4}};
        for (int fact = 0; fact < 6; fact++) {
            is("16 kind of " + fact, m.kind(fact), fact);
            for (int i = -1; i < 8; i++) {
                int due = i >= 0 && i < want[fact].length ? want[fact][i] : -1;
                is("17 number " + i + " of " + fact, m.number(fact, i), due);
            }
        }
        is("16 none", m.kind(6), -1);
        is("16 none", m.kind(-1), -1);
        is("17 none", m.number(6, 0), -1);
        is("17 none", m.number(-1, 0), -1);
        is("17 none", m.number(Integer.MIN_VALUE, Integer.MAX_VALUE), -1);
    }

    // ---- promise 19, TIRE
    private static void colours() {
        MarbleBath m = new MarbleBath();
        m.drop(500, 500, 100, 3);
        m.drop(500, 500, 50, 4);
        is("19 the later one", m.colour(500, 500, 2), 4);
        is("19 within 50", m.colour(549, 500, 2), 4);
        is("19 at 50 the earlier one", m.colour(550, 500, 2), 3);
        is("19 pushed outward: 111 * 111 - 2500 is below 10000", m.colour(611, 500, 2), 3);
        is("19 112 * 112 - 2500 is not", m.colour(612, 500, 2), -1);
        is("19 as known by 1", m.colour(500, 500, 1), 3);
        is("19 as known by 0", m.colour(500, 500, 0), -1);
        is("19 no such n", m.colour(500, 500, 3), -1);
        is("19 no such n", m.colour(500, 500, -1), -1);
        is("19 no such x", m.colour(-1, 500, 2), -1);
        is("19 no such y", m.colour(500, 1024, 2), -1);
        m.line(0, 500, 1000, 1);
        is("19 from beyond the rim", m.colour(500, 500, 3), -1);
        is("19 dragged far", m.colour(1023, 500, 3), -1);
        is("19 one off: 500 less", m.colour(1000, 501, 3), 4);
        for (int lays = 1; lays <= 11; lays++) {
            int n = m.lay(0) + 1;
            int radius = 100 * (10 - Math.min(9, lays)) / 10;
            n = m.drop(500, 500, 100, 5) + 1;
            is("19 tired " + lays, m.colour(500 + radius - 1, 500, n), 5);
            is("19 beyond " + lays, m.colour(500 + radius, 500, n), -1);
        }
        m.strike(3);
        is("19 less tired with a lay struck out", m.colour(509, 500, m.count(1)), 5);
        MarbleBath small = new MarbleBath();
        for (int i = 0; i < 5; i++) {
            small.lay(0);
        }
        small.drop(9, 9, 1, 6);
        is("19 at least 1", small.colour(9, 9, 6), 6);
        is("19 just 1", small.colour(10, 9, 6), -1);
        small.drop(100, 100, 3, 6);
        is("19 3 * 5 / 10 is 1", small.colour(101, 100, 7), -1);
    }

    // ---- promises 20, 21
    private static void ways() {
        MarbleBath m = new MarbleBath();
        m.wave(0, 1000, 0);
        m.drop(500, 500, 100, 3);
        m.line(0, 500, 64, 10);
        is("20 of the drop", m.from(600, 500, 3, 0), 1);
        is("20 x behind it", m.from(600, 500, 3, 1), 536);
        is("20 y behind it", m.from(600, 500, 3, 2), 500);
        is("20 of none", m.from(100, 500, 3, 0), -1);
        // 100 - 64 = 36: u -464, 464 * 464 - 10000 = 205296, root 453: 500 - 453
        is("20 x through all", m.from(100, 500, 3, 1), 47);
        is("20 y through all", m.from(100, 500, 3, 2), 500);
        is("20 beyond the rim", m.from(63, 500, 3, 1), -1);
        is("20 beyond the rim", m.from(63, 500, 3, 0), -1);
        is("20 at the rim", m.from(64, 500, 3, 1), 500 - 489);
        is("20 what 3", m.from(600, 500, 3, 3), -1);
        is("20 what -1", m.from(600, 500, 3, -1), -1);
        is("20 no such n", m.from(600, 500, 4, 1), -1);
        is("20 no such point", m.from(1024, 500, 3, 1), -1);
        is("21 forth from the middle", m.to(500, 500, 3, 0), 664);
        is("21 y", m.to(500, 500, 3, 1), 500);
        // u 30, v 40, D 2500: root(12500) = 111: 30 * 111 / 50 = 66, 40 * 111 / 50 = 88; 8 halvings leave 0
        is("21 x", m.to(530, 540, 3, 0), 566);
        is("21 y", m.to(530, 540, 3, 1), 588);
        is("21 as known by 2", m.to(500, 500, 2, 0), 600);
        is("21 lost", m.to(1000, 500, 3, 0), -1);
        is("21 lost", m.to(1000, 500, 3, 1), -1);
        is("21 what 2", m.to(500, 500, 3, 2), -1);
        is("21 what -1", m.to(500, 500, 3, -1), -1);
        is("21 no such n", m.to(500, 500, -1, 0), -1);
        is("21 no such point", m.to(500, -1, 3, 0), -1);
        m.lay(0);
        is("20 nothing floats", m.from(600, 500, 4, 1), 600);
        is("21 nothing floats", m.to(600, 500, 4, 0), 600);
        is("20 as known ahead", m.from(600, 500, 3, 1), 536);
        m.drop(500, 500, 100, 3);
        is("20 the fact behind the lay", m.from(500, 500, 5, 0), 4);
        is("21 tired: 90", m.to(500, 500, 5, 0), 590);
        m.drop(1023, 0, 512, 1);
        is("21 out of the rim by a drop", m.to(1023, 0, 6, 0), -1);
        MarbleBath d = new MarbleBath();
        d.drop(700, 200, 50, 6);
        // u 30, v -40: forth root(5000) = 70: 30 * 70 / 50, -40 * 70 / 50; from 60, -80: root(7500) = 86
        is("21 right and up", d.to(730, 160, 1, 0), 742);
        is("21 right and up", d.to(730, 160, 1, 1), 144);
        is("21 the middle", d.to(700, 200, 1, 0), 750);
        is("20 right and up", d.from(760, 120, 1, 1), 751);
        is("20 right and up", d.from(760, 120, 1, 2), 132);
        is("20 the drop is fact 0", d.from(700, 200, 1, 0), 0);
        // u -700, v 823: D 1167329, root 1080; root(1164829) = 1079
        is("20 from the rim's corner", d.from(0, 1023, 1, 1), 1);
        is("20 from the rim's corner", d.from(0, 1023, 1, 2), 1022);
    }

    // ---- promise 22
    private static void homes() {
        MarbleBath m = new MarbleBath();
        is("22 an empty bath", m.home(7, 8, 0), 0);
        m.line(0, 500, 30, 1000);
        m.line(1, 500, 30, 1000);
        is("22 lines are undone", m.home(100, 100, 2), 0);
        is("22 lost", m.home(1000, 100, 2), -2);
        m.drop(500, 500, 100, 3);
        // to 130, 130: u = v = -370, D 273800, root 523; root 283800 = 532: 370 * 532 / 523 = 376 to 124, 124.
        // back: 2 * 376 * 376 = 282752, root 531; root 272752 = 522: 376 * 522 / 531 = 369 to 131, 131: 101, 101
        is("22 both coordinates differ", m.home(100, 100, 3), 2);
        is("22 no such n", m.home(100, 100, 4), -1);
        is("22 no such n", m.home(100, 100, -1), -1);
        is("22 no such point", m.home(100, 1024, 3), -1);
        is("22 no such point", m.home(-1, 100, 3), -1);
        MarbleBath d = new MarbleBath();
        d.drop(500, 500, 2, 3);
        // u = 1, v = 1: D 2, root(2 + 4) = 2, to 502, 502: D 8: 8 - 4, root 2 by 2: to 502, 502
        is("22 one and one", d.home(501, 501, 1), 2);
        d.drop(600, 600, 1, 4);
        // u = -2: forth -2 * root(5) / 2 = -2, it stays; back -2 * root(3) / 2 = -1
        is("22 rounded back", d.home(598, 600, 2), 1);
        MarbleBath of = new MarbleBath();
        of.drop(500, 500, 5, 3);
        // u = v = 1: D 2, root(27) = 5: to 505, 505; back D 50: 5 * root(25) / root(50) = 3: to 503, 503
        is("22 two and two", of.home(501, 501, 1), 4);
        boolean found = false;
        for (int r = 1; r < 60 && !found; r++) {
            MarbleBath b = new MarbleBath();
            b.drop(500, 500, r, 3);
            for (int x = 501; x < 520 && !found; x++) {
                int atX = b.to(x, 503, 1, 0);
                int atY = b.to(x, 503, 1, 1);
                if (b.colour(atX, atY, 1) == 3) {
                    found = true;
                    is("22 comes to be of a drop", b.home(x, 503, 1), -2);
                }
            }
        }
        is("22 some point comes to be of a drop", found ? 1 : 0, 1);
    }

    // ---- promises 23, 24, 25
    private static void sheetsAndCells() {
        MarbleBath m = new MarbleBath();
        m.drop(96, 32, 25, 1);
        m.drop(32, 992, 20, 2);
        m.drop(96, 1012, 20, 3);
        m.lay(0);
        m.drop(96, 52, 20, 4);
        m.drop(160, 52, 20, 5);
        m.drop(96, 1012, 20, 6);
        m.lay(20);
        m.drop(96, 1023, 60, 6);
        m.drop(608, 992, 20, 7);
        m.lay(63);
        int n = m.count(1);
        is("23 none", m.sheets(0), 0);
        is("23 none yet", m.sheets(3), 0);
        is("23 one", m.sheets(4), 1);
        is("23 three", m.sheets(n), 3);
        is("23 no such n", m.sheets(n + 1), -1);
        is("23 no such n", m.sheets(-1), -1);
        is("24 without shake", m.cell(0, 1, 0, n), 1);
        is("24 the other row", m.cell(0, 0, 15, n), 2);
        is("24 just off", m.cell(0, 1, 15, n), -1);
        is("24 shaken", m.cell(1, 1, 0, n), 4);
        is("24 an even i is not", m.cell(1, 2, 0, n), -1);
        is("24 shaken near the rim", m.cell(1, 1, 15, n), 6);
        is("24 shaken over the rim: no point, bare", m.cell(2, 1, 15, n), -1);
        is("24 the same drop at j 14: 64 * 14 + 32 + 63", m.cell(2, 1, 14, n), 6);
        is("24 991 is in the drop at 992", m.cell(2, 9, 14, n), 7);
        is("24 1055 is no point", m.cell(2, 9, 15, n), -1);
        is("24 no such i", m.cell(0, -1, 0, n), -2);
        is("24 no such i", m.cell(0, 16, 0, n), -2);
        is("24 no such j", m.cell(0, 0, -1, n), -2);
        is("24 no such j", m.cell(0, 0, 16, n), -2);
        is("24 no such sheet", m.cell(3, 0, 0, n), -2);
        is("24 no such sheet", m.cell(-1, 0, 0, n), -2);
        is("24 no such sheet yet", m.cell(0, 0, 0, 3), -2);
        is("24 no such n", m.cell(0, 0, 0, n + 1), -2);
        is("24 no such n", m.cell(0, 0, 0, -1), -2);
        is("25", m.area(0, 1, n), 1);
        is("25 none of it", m.area(0, 7, n), 0);
        is("25 bare ones", m.area(0, -1, n), 254);
        is("25 no such colour", m.area(0, 8, n), -1);
        is("25 no such colour", m.area(0, -2, n), -1);
        is("25 no such sheet", m.area(3, 1, n), -1);
        is("25 no such sheet", m.area(-1, 1, n), -1);
        is("25 no such n", m.area(0, 1, n + 1), -1);
        m.strike(0);
        is("24 struck out later", m.cell(0, 1, 0, n + 1), -1);
        is("24 as known ahead", m.cell(0, 1, 0, n), 1);
        m.strike(3);
        is("23 a lay less", m.sheets(n + 2), 2);
        is("24 both on one sheet", m.cell(0, 0, 15, n + 2), 2);
        is("24 with the later one's shake", m.cell(0, 1, 15, n + 2), 6);
        is("25 the bath is less tired now", m.area(1, 6, n + 2), 1);
    }

    /** Just so far that the middle of a cell is in the drop, and no more. */
    private static void middles() {
        for (int k = 0; k < 4; k++) {
            int dx = k == 0 ? 10 : k == 1 ? -10 : 0;
            int dy = k == 2 ? 10 : k == 3 ? -10 : 0;
            MarbleBath m = new MarbleBath();
            m.drop(64 * 4 + 32 + dx, 64 * 9 + 32 + dy, 10, 1);
            m.drop(64 * 7 + 32 + dx, 64 * 3 + 32 + 5 + dy, 10, 1);
            m.lay(5);
            m.strike(0);
            m.strike(1);
            m.drop(64 * 4 + 32 + dx, 64 * 9 + 32 + dy, 13, 1);
            m.drop(64 * 7 + 32 + dx, 64 * 3 + 32 + 5 + dy, 13, 1);
            m.lay(5);
            is("24 ten are not below ten", m.area(0, 1, 3), 0);
            is("24 tired 13 are eleven", m.cell(1, 4, 9, 8), 1);
            is("24 shaken", m.cell(1, 7, 3, 8), 1);
        }
    }

    // ---- promises 26 .. 30
    private static void piecesAndEdges() {
        MarbleBath m = new MarbleBath();
        // tiny drops of radius 1: none pushes another cell's middle by a whole
        int[][] ones = {{0, 0}, {0, 1}, {1, 1}, {3, 3}, {4, 4}, {15, 15}, {15, 14}, {15, 13}, {14, 13}};
        for (int[] c : ones) {
            m.drop(64 * c[0] + 32, 64 * c[1] + 32, 9, 1);
        }
        m.drop(64 * 2 + 32, 64 + 32, 9, 2);
        m.lay(0);
        m.lay(0);
        int n = m.count(1);
        is("25 all stand", m.area(0, 1, n), 9);
        is("26 three ones, two by corners, four, a two", m.pieces(0, n), 5);
        is("27", m.largest(0, n), 4);
        is("26 a bare sheet", m.pieces(1, n), 0);
        is("27 a bare sheet", m.largest(1, n), 0);
        is("26 none such", m.pieces(2, n), -1);
        is("26 none such", m.pieces(-1, n), -1);
        is("26 no such n", m.pieces(0, n + 1), -1);
        is("27 none such", m.largest(2, n), -1);
        is("27 no such n", m.largest(0, -1), -1);
        is("28 15 of 0 by 0 of 0", m.edge(0, 0, 0, n), 5);
        // j 13, 14, 15 of the one; 0, 1 of the other. 14 and 15 meet 0 and 1 at -14; 13 and 14 at -13
        is("28 by -14", m.edge(0, 0, -14, n), 0);
        is("28 by -13", m.edge(0, 0, -13, n), 1);
        is("28 by -15", m.edge(0, 0, -15, n), 0);
        is("28 by 15", m.edge(0, 0, 15, n), 0);
        is("28 by 3: 13 there", m.edge(0, 0, 3, n), 0);
        is("28 by 2: 13 and 15", m.edge(0, 0, 2, n), 1);
        is("28 the other way", m.edge(1, 0, 0, n), 2);
        is("28 no such shift", m.edge(0, 0, 16, n), -1);
        is("28 no such shift", m.edge(0, 0, -16, n), -1);
        is("28 no such shift", m.edge(0, 0, Integer.MIN_VALUE, n), -1);
        is("28 none such", m.edge(2, 0, 0, n), -1);
        is("28 none such", m.edge(0, 2, 0, n), -1);
        is("28 no such n", m.edge(0, 0, 0, n + 1), -1);
        is("29 3 is the nearest of those without unlike ones", m.match(0, 0, n), 3);
        is("29 all alike: 0", m.match(1, 1, n), 0);
        is("29 bare by 0: 2", m.match(1, 0, n), 2);
        is("29 none such", m.match(0, 2, n), -100);
        is("29 none such", m.match(-1, 0, n), -100);
        is("29 no such n", m.match(0, 0, n + 1), -100);
        is("30", m.unlike(0, 1, n), 10);
        is("30 itself", m.unlike(0, 0, n), 0);
        is("30 none such", m.unlike(0, 2, n), -1);
        is("30 none such", m.unlike(-1, 0, n), -1);
        is("30 no such n", m.unlike(0, 0, -1), -1);
        ties();
        windings();
        fits();
    }

    /** A piece is followed to every side. */
    private static void windings() {
        int[][][] shapes = {
            {{0, 5}, {1, 5}, {2, 5}, {2, 6}, {2, 7}, {1, 7}, {0, 7}},
            {{0, 5}, {1, 5}, {1, 4}, {1, 3}, {0, 3}},
            {{3, 9}, {4, 9}, {4, 8}, {4, 7}, {3, 7}, {2, 7}},
            {{0, 0}, {0, 1}, {1, 0}}, {{0, 0}}, {{15, 15}}, {{15, 0}, {14, 0}}, {{0, 15}, {0, 14}, {0, 13}}};
        for (int k = 0; k < shapes.length; k++) {
            MarbleBath m = new MarbleBath();
            for (int[] cell : shapes[k]) {
                m.drop(64 * cell[0] + 32, 64 * cell[1] + 32, 15, 3);
            }
            m.lay(0);
            int n = m.count(1);
            is("25 shape " + k, m.area(0, 3, n), shapes[k].length);
            is("26 shape " + k, m.pieces(0, n), 1);
            is("27 shape " + k, m.largest(0, n), shapes[k].length);
        }
        MarbleBath two = new MarbleBath();
        two.drop(32, 32, 15, 0);
        two.drop(96, 32, 15, 1);
        two.drop(32, 64 * 15 + 32, 15, 0);
        two.drop(96, 64 * 14 + 32, 15, 0);
        two.lay(0);
        is("26 other colours, corners and rims do not hang together", two.pieces(0, 5), 4);
        is("27 one each", two.largest(0, 5), 1);
        is("25 colour 0", two.area(0, 0, 5), 3);
    }

    /** What is in columns 15 of the one and 0 of the other, and the shift that fits. */
    private static void fit(int[] one, int[] other, int want) {
        MarbleBath m = new MarbleBath();
        for (int j : one) {
            m.drop(992, 64 * j + 32, 15, 1);
        }
        m.lay(0);
        for (int j : other) {
            m.drop(32, 64 * j + 32, 15, 1);
        }
        m.lay(0);
        is("29 " + java.util.Arrays.toString(one) + " by " + java.util.Arrays.toString(other),
                m.match(0, 1, m.count(1)), want);
    }

    private static void fits() {
        fit(new int[] {0, 15}, new int[] {0, 15}, 0);
        fit(new int[] {0, 4, 15}, new int[] {0, 15}, -15);
        fit(new int[] {}, new int[] {}, 0);
        fit(new int[] {8}, new int[] {9}, 1);
        fit(new int[] {9}, new int[] {8}, -1);
        fit(new int[] {0}, new int[] {15}, -1);
        fit(new int[] {15}, new int[] {0}, 1);
        fit(new int[] {2, 5, 9, 14}, new int[] {5, 8, 12}, 3);
        fit(new int[] {5, 8, 12}, new int[] {2, 5, 9}, -3);
    }

    /** Shares, not counts, decide; of alike ones the one below 0. */
    private static void ties() {
        MarbleBath m = new MarbleBath();
        m.drop(992, 64 * 7 + 32, 9, 1);
        m.drop(992, 64 * 8 + 32, 9, 1);
        m.lay(0);
        m.drop(32, 64 * 6 + 32, 9, 1);
        m.drop(32, 64 * 9 + 32, 9, 1);
        m.lay(0);
        int n = m.count(1);
        is("28 four at 0", m.edge(0, 1, 0, n), 4);
        is("28 two at 1", m.edge(0, 1, 1, n), 2);
        is("28 two at -1", m.edge(0, 1, -1, n), 2);
        is("28 9 is there by 9", m.edge(0, 1, 9, n), 1);
        is("28 none is there by 10", m.edge(0, 1, 10, n), 0);
        is("28 none is there by -10", m.edge(0, 1, -10, n), 0);
        is("29 the one below 0", m.match(0, 1, n), -10);
        MarbleBath e = new MarbleBath();
        e.drop(992, 512, 512, 1);
        e.lay(0);
        e.drop(32, 512, 350, 1);
        e.lay(0);
        // the one is of the drop from 0 to 15, the other one from 3 to 12
        is("28 at 0: 6 of 16", e.edge(0, 1, 0, 4), 6);
        is("28 at 3: 3 of 13", e.edge(0, 1, 3, 4), 3);
        is("28 at 4: 3 of 12", e.edge(0, 1, -4, 4), 3);
        is("28 at 14: 2 of 2", e.edge(0, 1, 14, 4), 2);
        is("28 at 15: 1 of 1", e.edge(0, 1, 15, 4), 1);
        is("29 3 of 13, below 0", e.match(0, 1, 4), -3);
    }

    // ---- promises 31, 32
    private static void made() {
        MarbleBath m = new MarbleBath();
        m.drop(96, 64 * 3 + 32, 20, 2);
        m.lay(0);
        is("31 no patterns", m.made(0, 2), -2);
        is("32 no patterns", m.off(0, 2), -2);
        is("31 none such", m.made(1, 2), -1);
        is("31 none such", m.made(-1, 2), -1);
        is("31 none such yet", m.made(0, 1), -1);
        is("31 no such n", m.made(0, 3), -1);
        is("32 none such", m.off(1, 2), -1);
        is("32 no such n", m.off(0, -1), -1);
        Due.read(m, "pattern a drop 96, 32, 20, 2; end "
                + "pattern b(p) drop 96, 64 * p + 32, 20, 2; end "
                + "pattern c(p, q) drop 64 * p + 32, 64 * q + 32, 20, 2; end");
        is("31 the least of b and c", m.made(0, 2), 16 + 4 * 3);
        is("32 wholly", m.off(0, 2), 0);
        m.drop(96, 64 * 9 + 32, 20, 3);
        m.lay(0);
        is("31 of alike ones the least: two off", m.made(1, 4), 0);
        is("32 two off", m.off(1, 4), 2);
        m.drop(32 + 128, 64 + 32, 40, 2);
        m.lay(0);
        int n = m.count(1);
        is("31 both", m.made(2, n), 32 + 4 * 2 + 1);
        is("32 both", m.off(2, n), 0);
        Due.read(m, "pattern a(p) drop 1 / p, 1, 1, 1; end");
        is("31 those that break are left", m.made(2, n), 4);
        is("32 one off", m.off(2, n), 1);
        Due.read(m, "pattern a(p, q) drop 1, 1, 0, 1; end");
        is("31 all break", m.made(2, n), -2);
        is("32 all break", m.off(2, n), -2);
        is("13 this is no run", m.broke(), 0);
        Due.read(m, "pattern a for i = 1 to 61 drop 1, 1, 1, 1; end end "
                + "pattern b for i = 1 to 60 drop 1, 1, 1, 1; end end");
        is("31 60 strokes at most", m.made(2, n), 16);
        madeTiredAndShaken();
        madeAtTheEdges();
    }

    private static void madeAtTheEdges() {
        MarbleBath m = new MarbleBath();
        m.drop(64 * 4 + 32, 64 * 5 + 32, 20, 1);
        m.lay(0);
        Due.read(m, "pattern a(p, q) drop 64 * p + 32, 64 * q + 32, 20, 1; end");
        is("31 4 is not tried", m.made(0, 2), 0);
        is("32 4 is not tried", m.off(0, 2), 2);
        Due.read(m, "pattern a(p, q) drop 64 * p + 96, 64 * q + 160, 20, 1; end");
        is("31 3 is", m.made(0, 2), 4 * 3 + 3);
        MarbleBath full = new MarbleBath();
        for (int i = 0; i < 9; i++) {
            full.drop(i % 3 * 511, i / 3 * 511, 512, 1);
        }
        full.lay(0);
        int n = full.count(1);
        is("25 all of one colour", full.area(0, 1, n), 256);
        is("26 one piece", full.pieces(0, n), 1);
        is("27 all", full.largest(0, n), 256);
        Due.read(full, "pattern bare(p) end");
        is("31 wholly off", full.made(0, n), 0);
        is("32 wholly off", full.off(0, n), 256);
        is("33 parameters", full.row(0, 256, n), -2);
        Due.read(full, "pattern bare end");
        is("33 255", full.row(0, 255, n), -2);
        is("33 256", full.row(0, 256, n), 1);
    }

    private static void madeTiredAndShaken() {
        MarbleBath m = new MarbleBath();
        m.lay(0);
        for (int i = 0; i < 5; i++) {
            m.drop(1, 1, 1, 1);
            m.lay(0);
        }
        m.drop(96, 32 + 40 + 64, 40, 3);
        m.lay(40);
        int n = m.count(1);
        Due.read(m, "pattern a(p) drop 96, 136, 40, p; end");
        is("31 shaken", m.made(6, n), 12);
        is("32 shaken", m.off(6, n), 0);
        is("32 unshaken and untired 160 is in it", m.off(0, n), 1);
        is("31 without", m.made(0, n), 0);
        MarbleBath t = new MarbleBath();
        t.lay(0);
        t.lay(0);
        t.lay(0);
        t.lay(0);
        t.lay(0);
        t.drop(32, 32, 120, 1);
        t.lay(0);
        // 120 untired covers four cells at its corner and more; with half of it one
        is("25 60: one cell", t.area(5, 1, 7), 1);
        Due.read(t, "pattern a drop 32, 32, 60, 1; end pattern b drop 32, 32, 120, 1; end");
        is("31 as tired as the sheet: both make it, the least is it", t.made(5, 7), 0);
        Due.read(t, "pattern a drop 32, 32, 240, 1; end pattern b drop 32, 32, 120, 1; end");
        is("31 240 is too much", t.made(5, 7), 16);
        is("32 of b", t.off(5, 7), 0);
        is("31 untired b is nearer to a bare sheet", t.made(0, 7), 16);
        is("32 untired b is of four cells", t.off(0, 7), 4);
    }

    // ---- promises 33, 34
    private static void rows() {
        MarbleBath m = new MarbleBath();
        m.drop(32, 32, 20, 1);
        m.drop(96, 32, 20, 2);
        m.drop(160, 32, 20, 3);
        m.lay(0);
        is("33 no patterns", m.row(0, 256, 4), -2);
        is("33 d below 0", m.row(0, -1, 4), -1);
        is("33 none such", m.row(1, 0, 4), -1);
        is("33 none such", m.row(-1, 0, 4), -1);
        is("33 no such n", m.row(0, 0, 5), -1);
        is("34 not yet", m.rowed(0), -1);
        String rest = "pattern h(q) drop 32, 32, 20, 1; drop 96, 32, 20, 2; drop 160, 32, 20, 3; end "
                + "pattern c drop 160, 32, 20, 3; end pattern b drop 96, 32, 20, 2; end "
                + "pattern a drop 32, 32, 20, 1; end ";
        Due.read(m, rest);
        is("33 three, with h left out for its parameter", m.row(0, 0, 4), 3);
        is("34 first", m.rowed(0), 1);
        is("34 second", m.rowed(1), 2);
        is("34 third", m.rowed(2), 3);
        is("34 not so many", m.rowed(3), -1);
        is("34 not so many", m.rowed(-1), -1);
        is("33 two do for one off", m.row(0, 1, 4), 2);
        is("34 c, b", m.rowed(0) * 10 + m.rowed(1), 12);
        is("34 not so many now", m.rowed(2), -1);
        is("33 one does for two off", m.row(0, 2, 4), 1);
        is("34 c", m.rowed(0), 1);
        is("33 all", m.row(0, 256, 4), 1);
        is("33 greatest", m.row(0, Integer.MAX_VALUE, 4), 1);
        Due.read(m, "pattern a drop 32, 32, 20, 1; end");
        is("33 none", m.row(0, 1, 4), -2);
        is("34 the latest above 0 stays", m.rowed(0), 1);
        is("33 NONE", m.row(7, 1, 4), -1);
        is("34 it stays", m.rowed(0), 1);
        is("33 d 2", m.row(0, 2, 4), 1);
        is("34", m.rowed(0), 0);
        rowsTogether();
    }

    /** A row may have a pattern more than once; its strokes and deeds are counted together. */
    private static void rowsTogether() {
        MarbleBath k = new MarbleBath();
        Due.read(k, "pattern q drop 32, 32, 120, 1; end");
        k.run(0, 0, 0);
        k.run(0, 0, 0);
        k.run(0, 0, 0);
        k.lay(0);
        int n = k.count(1);
        is("33 thrice the same", k.row(0, 0, n), 3);
        is("34", k.rowed(0) + k.rowed(1) + k.rowed(2), 0);
        is("34 three", k.rowed(3), -1);
        Due.read(k, "pattern q drop 32, 32, 120, 1; for i = 1 to 19 drop 1023, 1023, 1, 0; end end");
        is("33 20 strokes each are 60", k.row(0, 0, n), 3);
        Due.read(k, "pattern q drop 32, 32, 120, 1; for i = 1 to 20 drop 1023, 1023, 1, 0; end end");
        is("33 21 strokes each are too many", k.row(0, 0, n), -2);
        Due.read(k, "pattern q drop 32, 32, 120, 1; for i = 1 to 664 end end");
        is("33 666 deeds each are 1998", k.row(0, 0, n), 3);
        Due.read(k, "pattern q drop 32, 32, 120, 1; for i = 1 to 665 end end");
        is("33 667 deeds each are 2001", k.row(0, 0, n), -2);
        k.strike(0);
        int two = k.count(1);
        Due.read(k, "pattern q drop 32, 32, 120, 1; for i = 1 to 998 end end");
        is("33 twice 1000 deeds", k.row(0, 0, two), 2);
        Due.read(k, "pattern q drop 32, 32, 120, 1; for i = 1 to 997 end if 1 == 1 end end pattern r end "
                + "pattern s for i = 1 to 999 end end");
        is("33 first of q, q", k.row(0, 0, two), 2);
        Due.read(k, "pattern q drop 32, 32, 120, 1; for i = 1 to 999 end end");
        is("33 twice 1001 deeds", k.row(0, 0, two), -2);
        Due.read(k, "pattern q drop 32, 32, 120, 1; for i = 1 to 29 drop 1023, 1023, 1, 0; end end");
        is("33 twice 30 strokes", k.row(0, 0, two), 2);
        Due.read(k, "pattern q drop 32, 32, 120, 1; for i = 1 to 30 drop 1023, 1023, 1, 0; end end");
        is("33 twice 31 strokes", k.row(0, 0, two), -2);
        fourAreTooMany();
        eightOfSixty();
        Due.read(k, "pattern q drop 32, 32, 120, 1; for i = 1 to 664 end end pattern r do q; end");
        is("33 the first of alike ones", k.row(0, 0, n), 3);
        is("34 with q alone", k.rowed(2), 0);
        Due.read(k, "pattern z drop 1, 1, 1, 9; end pattern q drop 32, 32, 120, 1; end");
        is("33 one that breaks is left out", k.row(0, 0, n), 3);
        is("34", k.rowed(0) * 100 + k.rowed(1) * 10 + k.rowed(2), 111);
    }

    /** Each of eight patterns may make sixty strokes by itself. */
    private static void eightOfSixty() {
        StringBuilder text = new StringBuilder();
        for (char name = 'a'; name < 'i'; name++) {
            text.append("pattern ").append(name).append(" for i = 1 to 59 wave x 2, 0; end drop 32, ")
                    .append(64 * (name - 'a') + 32).append(", 20, 1; end ");
        }
        for (int j = 0; j < 8; j++) {
            MarbleBath m = new MarbleBath();
            m.drop(32, 64 * j + 32, 20, 1);
            m.lay(0);
            is("4", Due.read(m, text.toString()), 0);
            is("33 sixty strokes of pattern " + j, m.row(0, 0, 2), 1);
            is("34 pattern " + j, m.rowed(0), j);
            is("31 sixty strokes of pattern " + j, m.made(0, 2), 16 * j);
        }
    }

    private static void fourAreTooMany() {
        MarbleBath m = new MarbleBath();
        for (int i = 0; i < 4; i++) {
            m.drop(64 * i + 32, 32, 20, i);
        }
        m.lay(0);
        Due.read(m, "pattern a drop 32, 32, 20, 0; end pattern b drop 96, 32, 20, 1; end "
                + "pattern c drop 160, 32, 20, 2; end pattern d drop 224, 32, 20, 3; end");
        is("33 four would be needed", m.row(0, 0, 5), -2);
        is("34 none yet", m.rowed(0), -1);
        is("33 three leave one off", m.row(0, 1, 5), 3);
        is("34 a, b, c", m.rowed(0) * 100 + m.rowed(1) * 10 + m.rowed(2), 12);
        m.strike(0);
        m.strike(1);
        is("33 two", m.row(0, 0, 7), 2);
        is("34 c, d", m.rowed(0) * 10 + m.rowed(1), 23);
        is("34 and no more", m.rowed(2), -1);
        m.strike(2);
        m.strike(3);
        Due.read(m, "pattern w wave x 2, 0; end pattern v end");
        is("33 a bare sheet", m.row(0, 0, 9), 1);
        is("34 w", m.rowed(0), 0);
    }

    // ---- promise 35
    private static void counts() {
        MarbleBath m = new MarbleBath();
        m.drop(1, 1, 1, 1);
        m.line(0, 1, 1, 1);
        m.lay(0);
        m.wave(0, 2, 1);
        m.drop(1, 1, 1, 1);
        is("35 facts", m.count(1), 5);
        is("35 strokes behind the lay", m.count(2), 2);
        m.strike(4);
        is("35 less one", m.count(2), 1);
        m.strike(2);
        is("35 those ahead float again", m.count(2), 3);
        is("35 facts", m.count(1), 7);
        m.feed(1, 2, 3, 4, 5);
        is("35 bytes", m.count(3), 20);
        is("35 others", m.count(4), -1);
        is("35 others", m.count(-1), -1);
        is("35 patterns", m.count(0), 0);
    }
}
