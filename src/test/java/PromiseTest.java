/** Each promise by examples worked out by hand: ordinary calls, edges, refusals. */
public final class PromiseTest extends Checks {
    public static void main(String[] args) {
        constants();
        aNewObject();
        letter();
        blank();
        fault();
        council();
        about();
        tenths();
        as();
        nose();
        bribe();
        draught();
        pepper();
        hour();
        lawsThatAreSaid();
        king();
        holds();
        window();
        saying();
        statutes();
        book();
        forget();
        fits();
        sneezed();
        years();
        image();
        restore();
        count();
        digest();
        end();
    }

    private static void constants() {
        sentence("the face");
        due("NONE", SneezeKing.NONE, -1);
        due("UNKNOWN", SneezeKing.UNKNOWN, -101);
        due("OUTSIDE", SneezeKing.OUTSIDE, -102);
        due("STATE", SneezeKing.STATE, -103);
        due("FULL", SneezeKing.FULL, -104);
    }

    private static void aNewObject() {
        sentence("1 a new object");
        SneezeKing x = new SneezeKing();
        long[] counts = {0, NONE, 0, 0, 0, 0, 0, 0, 0};
        for (int what = 0; what < counts.length; what++) {
            due("count(" + what + ")", x.count(what), counts[what]);
        }
        due("laws()", x.laws(), 0);
        due("fault()", x.fault(), 0);
        due("blank()", x.blank(), 0);
        due("forget()", x.forget(), 0);
        due("about(0, 0)", x.about(0, 0), UNKNOWN);
        due("as(0, 0)", x.as(0, 0), UNKNOWN);
        due("nose(0, 0)", x.nose(0, 0), UNKNOWN);
        due("bribe(0, 0)", x.bribe(0, 0), UNKNOWN);
        due("window(0)", x.window(0), UNKNOWN);
        due("sneezed(0, 0)", x.sneezed(0, 0), UNKNOWN);
        due("council()", x.council(), STATE);
        due("fits()", x.fits(), STATE);
        due("image()", x.image(), STATE);
        due("restore()", x.restore(), STATE);
        SneezeKing y = new SneezeKing();
        tell(y, "p00");
        due("count(7) of another object", x.count(7), 0);
    }

    private static void letter() {
        sentence("2 letter");
        SneezeKing x = new SneezeKing();
        int[] refused = {0, -1, 127, 128, MIN, MAX};
        for (int code : refused) {
            due("letter(" + code + ")", x.letter(code), OUTSIDE);
        }
        due("count(7)", x.count(7), 0);
        due("letter(1)", x.letter(1), 1);
        due("letter(126)", x.letter(126), 2);
        for (int i = 3; i <= 20; i++) {
            due("letter as the one of number " + i, x.letter('p'), i);
        }
        due("letter above 20", x.letter('p'), FULL);
        due("letter(0) above 20", x.letter(0), OUTSIDE);
        due("count(7)", x.count(7), 20);
    }

    private static void blank() {
        sentence("3 blank");
        SneezeKing x = new SneezeKing();
        tell(x, "p5x");
        due("blank()", x.blank(), 3);
        due("blank()", x.blank(), 0);
        due("fault()", x.fault(), 0);
        due("letter", x.letter('p'), 1);
        due("fault()", x.fault(), 1);
    }

    private static void faultOf(String text, int want) {
        SneezeKing x = new SneezeKing();
        tell(x, text);
        due("fault() of " + text, x.fault(), want);
        due("count(7) behind fault()", x.count(7), text.length());
    }

    private static void fault() {
        sentence("4 fault");
        faultOf("", 0);
        faultOf("x", 0);
        faultOf("P00", 0);
        faultOf(",", 0);
        faultOf("p", 1);
        faultOf("s", 1);
        faultOf("f", 1);
        faultOf("d", 1);
        faultOf("c", 1);
        faultOf("pp", 1);
        faultOf("p/", 1);
        faultOf("p:", 1);
        faultOf("p0", 2);
        faultOf("p9", 2);
        faultOf("p96", 2);
        faultOf("p9/", 2);
        faultOf("p95", 3);
        faultOf("p00", 3);
        faultOf("p95;", 3);
        faultOf("p950", 3);
        faultOf("p95,", 4);
        faultOf("p95,,", 4);
        faultOf("p95,x0x", 4);
        faultOf("p00,p00,p00", 11);
        faultOf("p00,p00,p00,", 12);
        faultOf("p00,p00,p00p", 11);
        faultOf("p00,p00,p00,p00,c95", 19);
        faultOf("p00,p00,p00,p00,p00,", 19);
        faultOf("p00,p00,p00,p00,p00p", 19);
    }

    private static void noCouncil(String text) {
        SneezeKing x = new SneezeKing();
        tell(x, text);
        due("council() of " + text, x.council(), STATE);
        due("count(7)", x.count(7), text.length());
        due("count(8)", x.count(8), 0);
    }

    private static void council() {
        sentence("5 council");
        noCouncil("");
        noCouncil("p00");
        noCouncil("p00,p00");
        noCouncil("p00,p00,");
        noCouncil("p00,p00,p0");
        noCouncil("p00,p00,p00,");
        noCouncil("p00,p00,p06");
        noCouncil("p00,p00,p00,p00,p00,");
        SneezeKing x = of("p10,s21,c32");
        due("count(7)", x.count(7), 0);
        due("count(8)", x.count(8), 1);
        x.hour(1);
        x.draught(1);
        x.pepper(true);
        x.book(3);
        x.nose(0, 7);
        x.bribe(0, 5);
        tell(x, "p10,s21,c3");
        due("council()", x.council(), STATE);
        due("count(5)", x.count(5), 1);
        due("count(6)", x.count(6), 1);
        x.letter('2');
        due("council()", x.council(), 3);
        long[] counts = {3, NONE, 0, 0, 0, 0, 0, 0, 2};
        for (int what = 0; what < counts.length; what++) {
            due("count(" + what + ") of the next council", x.count(what), counts[what]);
        }
        due("about(0, 1)", x.about(0, 1), 1);
        due("about(0, 2)", x.about(0, 2), 0);
        due("about(0, 4)", x.about(0, 4), 0);
        tell(x, "d94,f55,c30,s03");
        due("council()", x.council(), 4);
        due("about(3, 0)", x.about(3, 0), 1);
        tell(x, "p00,p01,p02,p03,p04");
        due("council()", x.council(), 5);
        due("about(4, 2)", x.about(4, 2), 4);
        tell(x, "p00,p01,p02");
        due("council()", x.council(), 3);
        due("about(3, 0)", x.about(3, 0), UNKNOWN);
        due("count(8)", x.count(8), 5);
    }

    private static void about() {
        sentence("6 about");
        SneezeKing x = of("p10,s21,f32,d43,c95");
        for (int councillor = 0; councillor < 5; councillor++) {
            due("about(" + councillor + ", 0)", x.about(councillor, 0), councillor);
        }
        int[] noses = {1, 2, 3, 4, 9}, says = {0, 1, 2, 3, 5};
        for (int councillor = 0; councillor < 5; councillor++) {
            due("about(" + councillor + ", 1)", x.about(councillor, 1), noses[councillor]);
            due("about(" + councillor + ", 2)", x.about(councillor, 2), says[councillor]);
            due("about(" + councillor + ", 4)", x.about(councillor, 4), 0);
        }
        x.hour(1);
        x.hour(1);
        due("about(0, 4)", x.about(0, 4), 2);
        due("about(1, 4)", x.about(1, 4), 0);
        due("about(0, 5)", x.about(0, 5), OUTSIDE);
        due("about(0, -1)", x.about(0, -1), OUTSIDE);
        due("about(0, MAX)", x.about(0, MAX), OUTSIDE);
        due("about(5, 0)", x.about(5, 0), UNKNOWN);
        due("about(-1, 0)", x.about(-1, 0), UNKNOWN);
        due("about(MIN, 9)", x.about(MIN, 9), UNKNOWN);
    }

    private static void tenthsOf(SneezeKing x, int... want) {
        for (int councillor = 0; councillor < want.length; councillor++) {
            due("about(" + councillor + ", 3)", x.about(councillor, 3), want[councillor]);
        }
    }

    private static void tenths() {
        sentence("6 about, tenths");
        SneezeKing x = of("p10,s23,f32,d45,c45");
        tenthsOf(x, 1, 2, 4, 4, 5);
        x.pepper(true);
        tenthsOf(x, 1, 2, 4, 4, 8);
        x.draught(4);
        tenthsOf(x, 1, 2, 4, 4, 9);
        x.draught(0);
        tenthsOf(x, 3, 2, 4, 4, 8);
        x.draught(2);
        tenthsOf(x, 1, 2, 6, 4, 8);
        x.hour(0);
        tenthsOf(x, 1, 2, 5, 4, 7);
        x.hour(0);
        tenthsOf(x, 1, 2, 6, 4, 8);
        x.nose(0, 9);
        x.nose(2, 9);
        tenthsOf(x, 9, 2, 9, 4, 8);
        x.bribe(0, 3);
        x.hour(1);
        due("laws()", x.laws(), 8);
        tenthsOf(x, 0, 0, 0, 0, 7);
        x.hour(16);
        due("laws()", x.laws(), 32);
        tenthsOf(x, 9, 2, 9, 4, 8);
    }

    private static void as() {
        sentence("7 as");
        SneezeKing x = of("p10,s21,f32,d43,c95");
        boolean[][] is = {
            {true, false, false, false, false},
            {true, true, false, false, false},
            {true, false, true, false, false},
            {true, false, false, true, false},
            {true, false, true, false, true},
        };
        for (int councillor = 0; councillor < 5; councillor++) {
            for (int kind = 0; kind < 5; kind++) {
                due("as(" + councillor + ", " + kind + ")", x.as(councillor, kind), is[councillor][kind] ? councillor : NONE);
            }
        }
        due("as(0, 5)", x.as(0, 5), OUTSIDE);
        due("as(0, -1)", x.as(0, -1), OUTSIDE);
        due("as(0, MIN)", x.as(0, MIN), OUTSIDE);
        due("as(5, 0)", x.as(5, 0), UNKNOWN);
        due("as(-1, 7)", x.as(-1, 7), UNKNOWN);
    }

    private static void nose() {
        sentence("8 nose");
        SneezeKing x = of("p10,s21,f32");
        due("nose(1, 9)", x.nose(1, 9), 2);
        due("nose(1, 0)", x.nose(1, 0), 9);
        due("nose(1, 10)", x.nose(1, 10), OUTSIDE);
        due("nose(1, -1)", x.nose(1, -1), OUTSIDE);
        due("nose(3, 10)", x.nose(3, 10), UNKNOWN);
        due("nose(-1, 1)", x.nose(-1, 1), UNKNOWN);
        due("about(1, 1)", x.about(1, 1), 0);
        due("about(0, 1)", x.about(0, 1), 1);
    }

    private static void bribe() {
        sentence("9 bribe");
        SneezeKing x = of("p10,s21,f32");
        due("bribe(0, 5)", x.bribe(0, 5), 0);
        due("bribe(0, 4)", x.bribe(0, 4), 5);
        due("bribe(0, 6)", x.bribe(0, 6), OUTSIDE);
        due("bribe(0, -1)", x.bribe(0, -1), OUTSIDE);
        due("bribe(3, 6)", x.bribe(3, 6), UNKNOWN);
        due("bribe(MIN, 0)", x.bribe(MIN, 0), UNKNOWN);
        due("about(0, 2)", x.about(0, 2), 4);
        x.hour(1);
        due("laws()", x.laws(), 16);
    }

    private static void draught() {
        sentence("10 draught");
        SneezeKing none = new SneezeKing();
        due("draught(NONE) without a council", none.draught(NONE), STATE);
        due("draught(0) without a council", none.draught(0), UNKNOWN);
        SneezeKing x = of("p10,s21,f32");
        due("draught(NONE)", x.draught(NONE), NONE);
        due("draught(2)", x.draught(2), NONE);
        due("draught(0)", x.draught(0), 2);
        due("draught(3)", x.draught(3), UNKNOWN);
        due("draught(-2)", x.draught(-2), UNKNOWN);
        due("draught(NONE)", x.draught(NONE), 0);
        due("draught(NONE)", x.draught(NONE), NONE);
    }

    private static void pepper() {
        sentence("11 pepper");
        SneezeKing none = new SneezeKing();
        due("pepper(true) without a council", none.pepper(true), STATE);
        due("count(2)", none.count(2), 0);
        SneezeKing x = of("p10,s21,f32");
        due("pepper(false)", x.pepper(false), 0);
        due("pepper(true)", x.pepper(true), 0);
        due("pepper(true)", x.pepper(true), 1);
        due("pepper(false)", x.pepper(false), 1);
        due("count(2)", x.count(2), 0);
    }

    private static void hour() {
        sentence("12 hour");
        SneezeKing none = new SneezeKing();
        due("hour(0) without a council", none.hour(0), STATE);
        due("hour(1) without a council", none.hour(1), OUTSIDE);
        SneezeKing x = of("s10,p11,d12,d11,s11");
        due("hour(0)", x.hour(0), NONE);
        due("hour(2)", x.hour(2), 1);
        due("hour(1)", x.hour(1), 1);
        due("hour(16)", x.hour(16), 0);
        due("hour(4)", x.hour(4), 2);
        due("hour(7)", x.hour(7), 2);
        due("hour(9)", x.hour(9), 3);
        due("hour(12)", x.hour(12), NONE);
        due("hour(31)", x.hour(31), NONE);
        due("hour(19)", x.hour(19), NONE);
        due("hour(32)", x.hour(32), OUTSIDE);
        due("hour(33)", x.hour(33), OUTSIDE);
        due("hour(-1)", x.hour(-1), OUTSIDE);
        due("hour(MIN)", x.hour(MIN), OUTSIDE);
        due("count(4)", x.count(4), 10);
        x.nose(1, 0);
        due("hour(2) of no tenths", x.hour(2), OUTSIDE);
        due("hour(6) of no tenths", x.hour(6), OUTSIDE);
        due("count(4)", x.count(4), 10);
        SneezeKing s = of("s10,s11,s12");
        due("hour(1) of stiflers", s.hour(1), 1);
        due("hour(2) of stiflers", s.hour(2), 2);
        due("hour(4) of stiflers", s.hour(4), 0);
        SneezeKing f = of("f00,p00,c03");
        due("hour(1) in an even hour", f.hour(1), 0);
        due("hour(1) in an odd hour", f.hour(1), OUTSIDE);
        due("hour(0)", f.hour(0), NONE);
        due("hour(4)", f.hour(4), 2);
        f.hour(0);
        due("hour(1) while law 3 holds", f.hour(1), OUTSIDE);
        due("hour(4) while law 3 holds", f.hour(4), 2);
    }

    private static void lawSaid(SneezeKing x, int law, int want) {
        x.bribe(0, law);
        due("hour(1)", x.hour(1), 0);
        due("laws() behind law " + law, x.laws(), want);
    }

    private static void lawsThatAreSaid() {
        sentence("13 laws");
        SneezeKing x = of("c90,p00,p00");
        lawSaid(x, 2, 0);
        lawSaid(x, 0, 1);
        lawSaid(x, 2, 5);
        lawSaid(x, 1, 6);
        lawSaid(x, 0, 7);
        lawSaid(x, 3, 15);
        lawSaid(x, 3, 15);
        lawSaid(x, 5, 39);
        lawSaid(x, 3, 47);
        lawSaid(x, 4, 16);
        lawSaid(x, 2, 16);
        lawSaid(x, 1, 18);
        lawSaid(x, 2, 22);
        lawSaid(x, 4, 16);
        x.hour(0);
        due("laws() behind an hour without a king", x.laws(), 16);
        due("laws() without a council", new SneezeKing().laws(), 0);
    }

    private static void kingIs(SneezeKing x, int councillor, long above, long below) {
        due("king(" + councillor + ", 0)", x.king(councillor, 0), above);
        due("king(" + councillor + ", 1)", x.king(councillor, 1), below);
    }

    private static void king() {
        sentence("14 king");
        SneezeKing none = new SneezeKing();
        due("king(0, 0) without a council", none.king(0, 0), UNKNOWN);
        due("king(NONE, 2) without a council", none.king(NONE, 2), OUTSIDE);
        due("king(NONE, 0) without a council", none.king(NONE, 0), STATE);
        SneezeKing x = of("p50,p50,p50");
        kingIs(x, 0, 1, 8);
        kingIs(x, 2, 1, 8);
        kingIs(x, NONE, 5, 8);
        SneezeKing dean = of("d50,p50,p50");
        kingIs(dean, 0, 1, 2);
        kingIs(dean, 1, 1, 8);
        kingIs(dean, NONE, 1, 4);
        SneezeKing deans = of("d50,d50,p50");
        kingIs(deans, 0, 1, 4);
        kingIs(deans, 1, 1, 4);
        kingIs(deans, 2, 1, 8);
        SneezeKing stifler = of("p50,p50,s50");
        kingIs(stifler, 2, 0, 1);
        kingIs(stifler, 0, 1, 4);
        SneezeKing nobody = of("p00,p00,p00");
        kingIs(nobody, NONE, 1, 1);
        kingIs(nobody, 0, 0, 1);
        nobody.draught(1);
        kingIs(nobody, 1, 1, 5);
        kingIs(nobody, NONE, 4, 5);
        SneezeKing fevered = of("f00,p00,c03");
        fevered.draught(0);
        kingIs(fevered, 0, 27, 100);
        fevered.pepper(true);
        kingIs(fevered, 0, 9, 50);
        fevered.hour(4);
        kingIs(fevered, 0, 0, 1);
        kingIs(fevered, 2, 3, 10);
        due("king(3, 0)", x.king(3, 0), UNKNOWN);
        due("king(-2, 5)", x.king(-2, 5), UNKNOWN);
        due("king(0, 2)", x.king(0, 2), OUTSIDE);
        due("king(NONE, -1)", x.king(NONE, -1), OUTSIDE);
    }

    private static void holdsIs(SneezeKing x, int law, int hours, long above, long below) {
        due("holds(" + law + ", " + hours + ", 0)", x.holds(law, hours, 0), above);
        due("holds(" + law + ", " + hours + ", 1)", x.holds(law, hours, 1), below);
    }

    private static void holds() {
        sentence("15 holds");
        SneezeKing none = new SneezeKing();
        due("holds(0, 0, 0) without a council", none.holds(0, 0, 0), STATE);
        due("holds(6, 0, 0) without a council", none.holds(6, 0, 0), OUTSIDE);
        SneezeKing x = of("p50,p51,p02");
        holdsIs(x, 0, 0, 0, 1);
        holdsIs(x, 0, 1, 1, 4);
        holdsIs(x, 1, 1, 1, 4);
        holdsIs(x, 0, 2, 3, 8);
        holdsIs(x, 1, 2, 7, 16);
        holdsIs(x, 2, 3, 0, 1);
        x.hour(1);
        holdsIs(x, 0, 0, 1, 1);
        holdsIs(x, 0, 1, 3, 4);
        SneezeKing banned = of("p93,p00,p00");
        holdsIs(banned, 3, 1, 9, 10);
        holdsIs(banned, 3, 2, 99, 100);
        holdsIs(banned, 3, 3, 999, 1000);
        SneezeKing ending = of("p05,p93,p00");
        ending.hour(2);
        ending.draught(0);
        holdsIs(ending, 3, 3, 1, 1);
        holdsIs(ending, 5, 3, 0, 1);
        SneezeKing fevered = of("f00,p00,p00");
        holdsIs(fevered, 0, 1, 1, 10);
        holdsIs(fevered, 0, 2, 1, 10);
        holdsIs(fevered, 0, 3, 19, 100);
        fevered.hour(0);
        holdsIs(fevered, 0, 1, 0, 1);
        holdsIs(fevered, 0, 2, 1, 10);
        SneezeKing cat = of("c15,p13,p00");
        cat.hour(2);
        cat.pepper(true);
        holdsIs(cat, 5, 1, 2, 5);
        due("laws() behind holds", cat.laws(), 8);
        due("count(4) behind holds", cat.count(4), 1);
        SneezeKing five = of("p10,p10,p10,p10,p10");
        // Nobody is king by 0.67195 in each of them.
        holdsIs(five, 0, 3, 8000000000000L - 13439L * 13439L * 13439L, 8000000000000L);
        int[][] outside = {{-1, 0, 0}, {6, 0, 0}, {0, -1, 0}, {0, 4, 0}, {0, 0, -1}, {0, 0, 2}, {MIN, MAX, MIN}};
        for (int[] o : outside) {
            due("holds(" + o[0] + ", " + o[1] + ", " + o[2] + ")", x.holds(o[0], o[1], o[2]), OUTSIDE);
        }
    }

    private static void windowIs(String text, int councillor, int want) {
        SneezeKing x = of(text);
        due("window(" + councillor + ") of " + text, x.window(councillor), want);
        due("count(1) behind window", x.count(1), NONE);
    }

    private static void window() {
        sentence("16 window");
        windowIs("p50,p50,p50", 0, 0);
        windowIs("p50,p50,p50", 2, 2);
        windowIs("p90,p50,p50", 0, NONE);
        windowIs("p80,p50,p50", 0, 0);
        windowIs("s50,p50,p50", 0, NONE);
        windowIs("s50,p50,p50", 1, NONE);
        windowIs("s30,p30,p00", 1, 0);
        windowIs("p00,p30,s30", 0, 2);
        windowIs("p70,p30,s30", 0, 0);
        SneezeKing x = of("p50,p50,p50");
        x.draught(1);
        due("window(0)", x.window(0), 0);
        due("count(1)", x.count(1), 1);
        due("window(3)", x.window(3), UNKNOWN);
        due("window(NONE)", x.window(NONE), UNKNOWN);
        due("window(MIN)", x.window(MIN), UNKNOWN);
        x.bribe(0, 3);
        x.hour(1);
        due("window(0) while law 3 holds", x.window(0), NONE);
    }

    private static void saying() {
        sentence("17 saying");
        SneezeKing none = new SneezeKing();
        due("saying(0, 0) without a council", none.saying(0, 0), STATE);
        due("saying(0, 3) without a council", none.saying(0, 3), OUTSIDE);
        SneezeKing x = of("p91,p00,p00");
        for (int law = 0; law < 6; law++) {
            due("saying(" + law + ", 0)", x.saying(law, 0), law == 2 ? 0 : law);
        }
        due("saying(2, 2)", x.saying(2, 2), 0);
        // By 0 now it holds by 9 of 10, by 1 as well, by 3 not at all.
        SneezeKing later = of("p92,p00,p00");
        due("saying(2, 1) of a law said later", later.saying(2, 1), 0);
        // While 0 and 3 hold, 2 surely holds by 2 now, by 5 if he sneezes then, by 0 never.
        SneezeKing rising = of("p90,p00,p00");
        rising.hour(1);
        rising.bribe(0, 3);
        rising.hour(1);
        rising.bribe(0, 2);
        due("saying(2, 1) with a lesser one behind the best", rising.saying(2, 1), 2);
        due("saying(1, 1)", x.saying(1, 1), 1);
        x.bribe(0, 0);
        x.hour(1);
        x.bribe(0, 1);
        due("saying(2, 0) while law 0 holds", x.saying(2, 0), 2);
        due("saying(0, 0) while law 0 holds", x.saying(0, 0), 0);
        due("saying(0, 1) while law 0 holds", x.saying(0, 1), 3);
        due("saying(0, 2) while law 0 holds", x.saying(0, 2), 3);
        due("saying(1, 0) while law 0 holds", x.saying(1, 0), 1);
        due("laws()", x.laws(), 1);
        due("count(4)", x.count(4), 1);
        x.bribe(0, 3);
        x.hour(1);
        due("saying(3, 0) while law 3 holds", x.saying(3, 0), 0);
        int[][] outside = {{-1, 0}, {6, 0}, {0, -1}, {0, 3}, {MAX, MIN}};
        for (int[] o : outside) {
            due("saying(" + o[0] + ", " + o[1] + ")", x.saying(o[0], o[1]), OUTSIDE);
        }
    }

    private static void statutesAre(SneezeKing x, int set, int fewest, int first) {
        due("statutes(" + set + ", 0)", x.statutes(set, 0), fewest);
        due("statutes(" + set + ", 1)", x.statutes(set, 1), first);
    }

    private static void statutes() {
        sentence("18 statutes");
        SneezeKing none = new SneezeKing();
        due("statutes(0, 0) without a council", none.statutes(0, 0), STATE);
        due("statutes(64, 0) without a council", none.statutes(64, 0), OUTSIDE);
        SneezeKing x = of("c90,p00,p00");
        statutesAre(x, 0, 0, NONE);
        statutesAre(x, 1, 1, 0);
        statutesAre(x, 3, 2, 1);
        statutesAre(x, 4, NONE, NONE);
        statutesAre(x, 5, 2, 0);
        statutesAre(x, 6, 2, 1);
        statutesAre(x, 7, 3, 1);
        statutesAre(x, 9, 2, 0);
        statutesAre(x, 16, 1, 4);
        statutesAre(x, 40, 2, 5);
        statutesAre(x, 41, 3, 0);
        statutesAre(x, 63, 6, 4);
        lawSaid(x, 4, 16);
        statutesAre(x, 16, 0, NONE);
        statutesAre(x, 0, NONE, NONE);
        statutesAre(x, 15, NONE, NONE);
        statutesAre(x, 63, 5, 1);
        lawSaid(x, 3, 24);
        statutesAre(x, 16, 1, 4);
        statutesAre(x, 48, 1, 5);
        statutesAre(x, 56, 2, 5);
        due("laws()", x.laws(), 24);
        int[][] outside = {{-1, 0}, {64, 0}, {0, -1}, {0, 2}, {MIN, MAX}};
        for (int[] o : outside) {
            due("statutes(" + o[0] + ", " + o[1] + ")", x.statutes(o[0], o[1]), OUTSIDE);
        }
    }

    private static void book() {
        sentence("19 book");
        SneezeKing none = new SneezeKing();
        due("book(0) without a council", none.book(0), 1);
        SneezeKing x = of("p50,p51,p00");
        due("book(64)", x.book(64), OUTSIDE);
        due("book(-2)", x.book(-2), OUTSIDE);
        due("book(MIN)", x.book(MIN), OUTSIDE);
        due("book(NONE)", x.book(NONE), 1);
        due("book(0)", x.book(0), 2);
        due("book(63)", x.book(63), 3);
        due("book(1)", x.book(1), 4);
        due("book(1)", x.book(1), 5);
        due("book(1)", x.book(1), FULL);
        due("book(64)", x.book(64), OUTSIDE);
        due("count(6)", x.count(6), 5);
    }

    private static void forget() {
        sentence("20 forget");
        SneezeKing x = of("p50,p51,p00");
        x.book(63);
        x.book(NONE);
        due("forget()", x.forget(), 2);
        due("forget()", x.forget(), 0);
        due("fits()", x.fits(), 1);
        due("book(1)", x.book(1), 1);
        due("fits()", x.fits(), 1);
    }

    private static void fits() {
        sentence("21 fits");
        SneezeKing none = new SneezeKing();
        none.book(NONE);
        due("fits() without a council", none.fits(), STATE);
        SneezeKing x = of("p50,p51,p03");
        due("fits() of no hours", x.fits(), 1);
        x.book(NONE);
        due("fits()", x.fits(), 4);
        x.book(2);
        due("fits()", x.fits(), 6);
        due("laws()", x.laws(), 0);
        x.hour(2);
        due("fits() from the laws that hold now", x.fits(), 10);
        x.forget();
        x.book(0);
        due("fits() of what can't be", x.fits(), 0);
        SneezeKing banned = of("p53,p50,p00");
        banned.book(8);
        banned.book(8);
        due("fits() while law 3 holds", banned.fits(), 1);
        SneezeKing fevered = of("f00,p00,p00");
        fevered.book(NONE);
        fevered.book(NONE);
        fevered.book(NONE);
        due("fits() of a fevered one", fevered.fits(), 4);
        fevered.hour(0);
        due("fits() of a fevered one from an odd hour", fevered.fits(), 2);
        fevered.draught(1);
        due("fits() with a draught", fevered.fits(), 16);
        SneezeKing most = of("p10,p10,p10,p10,p10");
        for (int i = 0; i < 5; i++) {
            most.book(NONE);
        }
        due("fits() of all", most.fits(), 32 * 32 * 32 * 32 * 32);
    }

    private static void sneezed() {
        sentence("22 sneezed");
        SneezeKing x = of("p50,p51,p03");
        due("sneezed(0, 0) of no hours", x.sneezed(0, 0), UNKNOWN);
        x.book(NONE);
        due("sneezed(0, 0)", x.sneezed(0, 0), 2);
        due("sneezed(2, 0)", x.sneezed(2, 0), 0);
        x.book(2);
        due("sneezed(1, 0)", x.sneezed(1, 0), 4);
        due("sneezed(0, 1)", x.sneezed(0, 1), 1);
        due("sneezed(1, 1)", x.sneezed(1, 1), 5);
        due("sneezed(0, 2)", x.sneezed(0, 2), UNKNOWN);
        due("sneezed(0, -1)", x.sneezed(0, -1), UNKNOWN);
        due("sneezed(3, 0)", x.sneezed(3, 0), UNKNOWN);
        due("sneezed(NONE, 0)", x.sneezed(NONE, 0), UNKNOWN);
        due("sneezed(MIN, MAX)", x.sneezed(MIN, MAX), UNKNOWN);
        SneezeKing none = new SneezeKing();
        none.book(NONE);
        due("sneezed(0, 0) without a council", none.sneezed(0, 0), UNKNOWN);
    }

    private static void years() {
        sentence("23 years");
        SneezeKing none = new SneezeKing();
        due("years(1, 0, 0) without a council", none.years(1, 0, 0), STATE);
        due("years(0, 0, 0) without a council", none.years(0, 0, 0), OUTSIDE);
        // The seed 0 draws 0, 8, 8, then 7, 8, 7, then 5, 1, 2.
        SneezeKing x = of("p10,p81,p82");
        due("years(1, 0, 0)", x.years(1, 0, 0), 1);
        due("years(1, 0, 1)", x.years(1, 0, 1), 1);
        due("years(1, 0, 2)", x.years(1, 0, 2), 654583775);
        due("years(1, 0, 10)", x.years(1, 0, 10), 1);
        due("years(2, 0, 0)", x.years(2, 0, 0), 2);
        due("years(2, 0, 1)", x.years(2, 0, 1), 5);
        due("years(2, 0, 12)", x.years(2, 0, 12), 1);
        due("years(3, 0, 0)", x.years(3, 0, 0), 2);
        due("years(3, 0, 11)", x.years(3, 0, 11), 0);
        due("years(60, 5, 13)", x.years(60, 5, 13), 0);
        due("years(60, 5, 14)", x.years(60, 5, 14), 0);
        due("laws() behind years", x.laws(), 0);
        due("count(4) behind years", x.count(4), 0);
        due("count(5) behind years", x.count(5), 0);
        x.hour(1);
        due("years(1, 0, 10) behind an hour", x.years(1, 0, 10), 1);
        due("years(1, MAX, 2)", x.years(1, MAX, 2), seedBehind(MAX, 3));
        due("years(60, 7, 2)", x.years(60, 7, 2), seedBehind(7, 180));
        SneezeKing banned = of("p93,p00,p00");
        due("years(9, 1, 0) until law 3 holds", banned.years(9, 1, 0), 1);
        banned.hour(1);
        due("years(9, 1, 0) while law 3 holds", banned.years(9, 1, 0), 0);
        due("years(9, 1, 1) while law 3 holds", banned.years(9, 1, 1), 8);
        SneezeKing held = of("p91,p00,p00");
        held.hour(1);
        held.bribe(0, 0);
        due("years(9, 1, 1) with a law that held", held.years(9, 1, 1), 3);
        due("years(9, 1, 2) while law 3 holds", banned.years(9, 1, 2), seedBehind(1, 27));
        int[][] outside = {{0, 0, 0}, {61, 0, 0}, {1, -1, 0}, {1, 0, -1}, {1, 0, 3}, {1, 0, 9}, {1, 0, 15}, {MIN, MIN, MIN}};
        for (int[] o : outside) {
            due("years(" + o[0] + ", " + o[1] + ", " + o[2] + ")", x.years(o[0], o[1], o[2]), OUTSIDE);
        }
    }

    private static long seedBehind(long seed, int draws) {
        for (int i = 0; i < draws; i++) {
            seed = (1103515245L * seed + 12345L) & 0x7fffffffL;
        }
        return seed;
    }

    private static void image() {
        sentence("24 image");
        SneezeKing x = of("p50,p51,p03");
        due("image()", x.image(), 0);
        x.hour(1);
        due("image()", x.image(), 1);
        x.hour(1);
        due("restore() of the latest", x.restore(), 1);
        due("laws()", x.laws(), 1);
    }

    private static void restore() {
        sentence("25 restore");
        SneezeKing x = of("p50,p51,p53");
        due("restore() of none", x.restore(), STATE);
        x.hour(1);
        x.draught(2);
        x.pepper(true);
        x.book(1);
        x.book(NONE);
        long ways = x.fits();
        due("whether all fits", ways > 0 ? 1 : 0, 1);
        due("image()", x.image(), 1);
        long before = x.digest();
        x.hour(2);
        x.hour(4);
        x.draught(NONE);
        x.pepper(false);
        x.nose(0, 9);
        x.bribe(1, 5);
        x.forget();
        x.book(36);
        due("restore()", x.restore(), 1);
        due("fits()", x.fits(), ways);
        due("digest()", x.digest(), before);
        due("about(0, 1)", x.about(0, 1), 5);
        due("about(1, 2)", x.about(1, 2), 1);
        due("about(0, 4)", x.about(0, 4), 1);
        due("about(1, 4)", x.about(1, 4), 0);
        due("laws()", x.laws(), 1);
        due("count(1)", x.count(1), 2);
        due("count(2)", x.count(2), 1);
        due("count(6)", x.count(6), 2);
        x.hour(2);
        x.book(9);
        due("restore() once more", x.restore(), 1);
        due("digest()", x.digest(), before);
        tell(x, "p5");
        due("restore() leaves the page", x.restore(), 1);
        due("count(7)", x.count(7), 2);
        due("council()", x.council(), STATE);
        due("restore() behind no council", x.restore(), 1);
        x.blank();
        tell(x, "p50,p51,p53");
        x.council();
        due("restore() behind the same text", x.restore(), STATE);
        due("image()", x.image(), 0);
        due("restore()", x.restore(), 0);
        due("count(8)", x.count(8), 2);
    }

    private static void count() {
        sentence("26 count");
        SneezeKing x = of("p50,p51,p53,c95");
        x.hour(1);
        x.hour(2);
        x.hour(4);
        x.hour(8);
        x.hour(0);
        x.draught(3);
        x.pepper(true);
        x.book(1);
        tell(x, "pp");
        long[] counts = {4, 3, 1, 2, 5, 4, 1, 2, 1};
        for (int what = 0; what < counts.length; what++) {
            due("count(" + what + ")", x.count(what), counts[what]);
        }
        int[] outside = {-1, 9, MIN, MAX};
        for (int what : outside) {
            due("count(" + what + ")", x.count(what), OUTSIDE);
        }
    }

    private static long digestOf(SneezeKing x, String page) {
        long h = 809;
        for (int councillor = 0; councillor < x.count(0); councillor++) {
            for (int what = 0; what < 5; what++) {
                h = 31 * h + x.about(councillor, what);
            }
            h = 31 * h + x.king(councillor, 0);
            h = 31 * h + x.king(councillor, 1);
            h = 31 * h + x.window(councillor);
        }
        h = 31 * h + x.laws();
        for (int law = 0; law < 6 && x.count(0) > 0; law++) {
            h = 31 * h + x.holds(law, 2, 0);
            h = 31 * h + x.holds(law, 2, 1);
            h = 31 * h + x.saying(law, 1);
        }
        if (x.count(0) > 0) {
            h = 31 * h + x.fits();
        }
        for (int i = 0; i < page.length(); i++) {
            h = 31 * h + page.charAt(i);
        }
        for (int what = 0; what < 9; what++) {
            h = 31 * h + x.count(what);
        }
        return h;
    }

    private static void digest() {
        sentence("27 digest");
        SneezeKing x = new SneezeKing();
        due("digest() of a new one", x.digest(), ((809L * 31 * 31) * 31 - 1) * 27512614111L);
        tell(x, "p5?~");
        x.book(4);
        due("digest() of a page", x.digest(), digestOf(x, "p5?~"));
        x.blank();
        tell(x, "s50,f51,d53,c95");
        x.council();
        tell(x, "c9");
        x.draught(1);
        x.hour(2);
        x.pepper(true);
        x.book(NONE);
        long want = digestOf(x, "c9");
        due("digest()", x.digest(), want);
        due("digest() again", x.digest(), want);
    }
}
