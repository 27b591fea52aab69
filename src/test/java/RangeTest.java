/** Call by call, the numbers just inside and just outside of each range; the empty and the full. */
public final class RangeTest extends Checks {
    private static final String[] COUNCILS = {"p50,s41,d32", "p50,s41,d32,f33", "p50,s41,d32,f33,c54"};

    public static void main(String[] args) {
        letters();
        emptyPage();
        fullPage();
        faults();
        councils();
        abouts();
        kinds();
        noses();
        laws();
        draughts();
        peppers();
        hours();
        kings();
        holds();
        windows();
        sayings();
        statutes();
        books();
        emptyBook();
        fullBook();
        fitsOfFullBook();
        sneezers();
        years();
        counts();
        digests();
        threeBehindFive();
        end();
    }

    private static void letters() {
        sentence("2 letter: OUTSIDE: code (1 to 126)");
        range("letter", 1, 126, OUTSIDE, code -> new SneezeKing().letter(code));
        range("letter behind others", 1, 126, OUTSIDE, code -> written("p00").letter(code));
        due("digest() of the least and the most", written("" + (char) 1 + (char) 126).digest(),
                digestOfPage(1, 126));
    }

    /** Without a council: no laws, the letters, then what count() tells. */
    private static long digestOfPage(int... codes) {
        long h = 809L * 31;
        for (int code : codes) {
            h = 31 * h + code;
        }
        int[] counts = {0, NONE, 0, 0, 0, 0, 0, codes.length, 0};
        for (int count : counts) {
            h = 31 * h + count;
        }
        return h;
    }

    private static void emptyPage() {
        sentence("2 to 5 an empty page");
        SneezeKing x = new SneezeKing();
        due("fault()", x.fault(), 0);
        due("council()", x.council(), STATE);
        due("blank()", x.blank(), 0);
        due("letter(112)", x.letter('p'), 1);
        due("blank()", x.blank(), 1);
        due("blank()", x.blank(), 0);
        due("fault() of a page that is empty again", x.fault(), 0);
        due("digest() of a page that is empty again", x.digest(), digestOfPage());
        SneezeKing read = of(COUNCILS[0]);
        due("blank() behind a council", read.blank(), 0);
        due("fault() behind a council", read.fault(), 0);
        due("council() of the page that was read", read.council(), STATE);
        due("letter(112) behind a council", read.letter('p'), 1);
    }

    private static void fullPage() {
        sentence("2 letter: FULL: above 20");
        SneezeKing x = written("p00,p00,p00,p00,p00");
        due("letter as the 20th", x.letter(','), 20);
        due("letter as the 21st", x.letter('p'), FULL);
        due("letter as the 21st once more", x.letter(126), FULL);
        due("count(7)", x.count(7), 20);
        due("fault() of a full page", x.fault(), 19);
        due("council() of a full page", x.council(), STATE);
        due("blank()", x.blank(), 20);
        due("letter behind blank()", x.letter('p'), 1);
        SneezeKing read = written("p00,p00,p00,p00,p00");
        read.council();
        due("letter behind council()", read.letter('p'), 1);
    }

    private static void faults() {
        sentence("4 fault: the first letter that no council has there; how many letters, if there is none");
        String most = "c95,d00,f11,s22,p34";
        for (int length = 0; length <= most.length(); length++) {
            due("fault() of the first " + length, written(most.substring(0, length)).fault(), length);
        }
        for (int place = 0; place < most.length(); place++) {
            String wrong = most.substring(0, place) + "x" + most.substring(place + 1);
            due("fault() of " + wrong, written(wrong).fault(), place);
        }
        due("fault() of two that are wrong", written("p00,x00,p0x").fault(), 4);
        for (char code : new char[] {',', 'p', '0', 1, 126}) {
            due("fault() of a 20th letter " + (int) code, written(most + code).fault(), 19);
        }
        due("fault() behind the third", written("p00,p00,p00").fault(), 11);
        due("fault() of a comma behind the third", written("p00,p00,p00,").fault(), 12);
    }

    private static void councils() {
        sentence("5 council: STATE: it is none");
        String most = "c95,d00,f11,s22,p34";
        for (int length = 0; length <= most.length(); length++) {
            int seats = length == 11 ? 3 : length == 15 ? 4 : length == 19 ? 5 : STATE;
            SneezeKing x = written(most.substring(0, length));
            due("council() of the first " + length, x.council(), seats);
            due("count(7) behind the first " + length, x.count(7), seats == STATE ? length : 0);
            due("count(8) behind the first " + length, x.count(8), seats == STATE ? 0 : 1);
        }
        for (int place = 0; place < most.length(); place++) {
            String wrong = most.substring(0, place) + "x" + most.substring(place + 1);
            due("council() of " + wrong, written(wrong).council(), STATE);
        }
    }

    private static void abouts() {
        sentence("6 about: UNKNOWN; OUTSIDE (0 to 4)");
        for (int seats = 3; seats <= 5; seats++) {
            String text = COUNCILS[seats - 3];
            for (int what = 0; what <= 4; what++) {
                int told = what;
                range("about " + what, 0, seats - 1, UNKNOWN, councillor -> of(text).about(councillor, told));
            }
            int last = seats - 1;
            range("what of about", 0, 4, OUTSIDE, what -> of(text).about(last, what));
        }
        for (int number : new int[] {0, 1, -1, 4, MIN, MAX}) {
            due("about(" + number + ", 0) without a council", new SneezeKing().about(number, 0), UNKNOWN);
        }
    }

    private static void kinds() {
        sentence("7 as: UNKNOWN; OUTSIDE (0 to 4)");
        for (int seats = 3; seats <= 5; seats++) {
            String text = COUNCILS[seats - 3];
            range("as", 0, seats - 1, UNKNOWN, councillor -> of(text).as(councillor, 0));
            range("kind of as", 0, 4, OUTSIDE, kind -> of(text).as(0, kind));
        }
        due("as(0, 0) without a council", new SneezeKing().as(0, 0), UNKNOWN);
    }

    private static void noses() {
        sentence("8 nose: UNKNOWN; OUTSIDE: v (0 to 9)");
        for (int seats = 3; seats <= 5; seats++) {
            String text = COUNCILS[seats - 3];
            range("nose", 0, seats - 1, UNKNOWN, councillor -> of(text).nose(councillor, 9));
            int last = seats - 1;
            range("v of nose", 0, 9, OUTSIDE, v -> of(text).nose(last, v));
        }
        SneezeKing x = of("p50,s41,d32");
        int was = 3;
        for (int v : new int[] {0, 9, 9, 0, 1, 8}) {
            due("nose(2, " + v + ")", x.nose(2, v), was);
            due("about(2, 1)", x.about(2, 1), v);
            was = v;
        }
        due("nose(0, 0) without a council", new SneezeKing().nose(0, 0), UNKNOWN);
    }

    private static void laws() {
        sentence("9 bribe: UNKNOWN; OUTSIDE: law (0 to 5)");
        for (int seats = 3; seats <= 5; seats++) {
            String text = COUNCILS[seats - 3];
            range("bribe", 0, seats - 1, UNKNOWN, councillor -> of(text).bribe(councillor, 5));
            int last = seats - 1;
            range("law of bribe", 0, 5, OUTSIDE, law -> of(text).bribe(last, law));
        }
        SneezeKing x = of("p50,s41,d32");
        int was = 2;
        for (int law : new int[] {0, 5, 5, 0, 1, 4}) {
            due("bribe(2, " + law + ")", x.bribe(2, law), was);
            due("about(2, 2)", x.about(2, 2), law);
            was = law;
        }
        due("bribe(0, 0) without a council", new SneezeKing().bribe(0, 0), UNKNOWN);
    }

    private static void draughts() {
        sentence("10 draught: (NONE: nowhere); UNKNOWN: councillor; STATE: no council");
        for (int seats = 3; seats <= 5; seats++) {
            String text = COUNCILS[seats - 3];
            range("draught", NONE, seats - 1, UNKNOWN, councillor -> of(text).draught(councillor));
            SneezeKing x = of(text);
            int was = NONE;
            for (int where : new int[] {NONE, 0, 0, seats - 1, seats - 1, NONE, NONE}) {
                due("draught(" + where + ")", x.draught(where), was);
                due("count(1)", x.count(1), where);
                was = where;
            }
        }
        due("draught(NONE) without a council", new SneezeKing().draught(NONE), STATE);
    }

    private static void peppers() {
        sentence("11 pepper: STATE: no council");
        due("pepper(true) without a council", new SneezeKing().pepper(true), STATE);
        due("pepper(false) without a council", new SneezeKing().pepper(false), STATE);
        SneezeKing x = of(COUNCILS[0]);
        boolean was = false;
        for (boolean is : new boolean[] {false, true, true, false, false}) {
            due("pepper(" + is + ")", x.pepper(is), was ? 1 : 0);
            due("count(2)", x.count(2), is ? 1 : 0);
            was = is;
        }
    }

    private static void hours() {
        sentence("12 hour: OUTSIDE: set (bits of councillors; all of tenths above 0); STATE: no council");
        for (int seats = 3; seats <= 5; seats++) {
            String text = COUNCILS[seats - 3];
            range("hour", 0, (1 << seats) - 1, OUTSIDE, set -> of(text).hour(set));
            for (int bit = seats; bit < 32; bit++) {
                due("hour of bit " + bit, of(text).hour(1 << bit), OUTSIDE);
                due("hour of bits 0 and " + bit, of(text).hour(1 | 1 << bit), OUTSIDE);
            }
        }
        for (int silent = 0; silent < 3; silent++) {
            SneezeKing x = of("p10,p10,p10");
            x.nose(silent, 0);
            for (int set = 0; set < 8; set++) {
                boolean can = (set >> silent & 1) == 0;
                due("whether hour(" + set + ") is refused with a nose of 0", x.hour(set) == OUTSIDE ? 1 : 0, can ? 0 : 1);
            }
            due("count(4)", x.count(4), 4);
        }
        due("hour(0) without a council", new SneezeKing().hour(0), STATE);
    }

    private static void kings() {
        sentence("14 king: (NONE: nobody is); UNKNOWN; OUTSIDE (0, 1); STATE: no council");
        for (int seats = 3; seats <= 5; seats++) {
            String text = COUNCILS[seats - 3];
            range("king", NONE, seats - 1, UNKNOWN, councillor -> of(text).king(councillor, 0));
            range("part of king", 0, 1, OUTSIDE, part -> of(text).king(NONE, part));
        }
        due("king(NONE, 0) without a council", new SneezeKing().king(NONE, 0), STATE);
        due("king(NONE, 1) without a council", new SneezeKing().king(NONE, 1), STATE);
    }

    private static void holds() {
        sentence("15 holds: OUTSIDE: law (0 to 5), hours (0 to 3), part (0, 1); STATE: no council");
        for (String text : COUNCILS) {
            range("law of holds", 0, 5, OUTSIDE, law -> of(text).holds(law, 3, 1));
            range("hours of holds", 0, 3, OUTSIDE, hours -> of(text).holds(5, hours, 1));
            range("part of holds", 0, 1, OUTSIDE, part -> of(text).holds(5, 3, part));
        }
        due("holds(5, 3, 1) without a council", new SneezeKing().holds(5, 3, 1), STATE);
        due("holds(0, 0, 0) without a council", new SneezeKing().holds(0, 0, 0), STATE);
    }

    private static void windows() {
        sentence("16 window: UNKNOWN");
        for (int seats = 3; seats <= 5; seats++) {
            String text = COUNCILS[seats - 3];
            range("window", 0, seats - 1, UNKNOWN, councillor -> of(text).window(councillor));
        }
        due("window(0) without a council", new SneezeKing().window(0), UNKNOWN);
        due("window(NONE) without a council", new SneezeKing().window(NONE), UNKNOWN);
    }

    private static void sayings() {
        sentence("17 saying: OUTSIDE: law (0 to 5), hours (0 to 2); STATE: no council");
        for (String text : COUNCILS) {
            range("law of saying", 0, 5, OUTSIDE, law -> of(text).saying(law, 2));
            range("hours of saying", 0, 2, OUTSIDE, hours -> of(text).saying(5, hours));
        }
        due("saying(5, 2) without a council", new SneezeKing().saying(5, 2), STATE);
        due("saying(0, 0) without a council", new SneezeKing().saying(0, 0), STATE);
    }

    private static void statutes() {
        sentence("18 statutes: OUTSIDE: set (0 to 63), what (0, 1); STATE: no council");
        range("set of statutes", 0, 63, OUTSIDE, set -> of(COUNCILS[0]).statutes(set, 0));
        range("set of statutes", 0, 63, OUTSIDE, set -> of(COUNCILS[2]).statutes(set, 1));
        range("what of statutes", 0, 1, OUTSIDE, what -> of(COUNCILS[0]).statutes(63, what));
        due("statutes(63, 1) without a council", new SneezeKing().statutes(63, 1), STATE);
        due("statutes(0, 0) without a council", new SneezeKing().statutes(0, 0), STATE);
    }

    private static void books() {
        sentence("19 book: OUTSIDE: set (NONE, 0 to 63)");
        range("book", NONE, 63, OUTSIDE, set -> of(COUNCILS[0]).book(set));
        range("book without a council", NONE, 63, OUTSIDE, set -> new SneezeKing().book(set));
    }

    private static void emptyBook() {
        sentence("20 to 22 an empty book");
        SneezeKing x = of("p50,p41,p32");
        due("fits()", x.fits(), 1);
        due("forget()", x.forget(), 0);
        due("sneezed(0, 0)", x.sneezed(0, 0), UNKNOWN);
        due("count(6)", x.count(6), 0);
        x.book(8);
        due("fits() of what can't be", x.fits(), 0);
        due("forget()", x.forget(), 1);
        due("fits() of a book that is empty again", x.fits(), 1);
        due("sneezed(0, 0) of a book that is empty again", x.sneezed(0, 0), UNKNOWN);
        due("book(1) behind forget()", x.book(1), 1);
        due("sneezed(0, 0) behind forget()", x.sneezed(0, 0), 1);
        SneezeKing none = new SneezeKing();
        due("forget() without a council", none.forget(), 0);
        due("fits() without a council", none.fits(), STATE);
        due("sneezed(0, 0) without a council", none.sneezed(0, 0), UNKNOWN);
        none.book(3);
        due("forget() without a council", none.forget(), 1);
        none.book(3);
        tell(none, "p50,p41,p32");
        none.council();
        due("count(6) behind council()", none.count(6), 0);
    }

    private static void fullBook() {
        sentence("19 book: FULL");
        for (SneezeKing x : new SneezeKing[] {new SneezeKing(), of("p50,p41,p32")}) {
            for (int hours = 1; hours <= 5; hours++) {
                due("book as the hour of number " + hours, x.book(hours % 2 == 0 ? NONE : 63), hours);
            }
            due("book(0) as the sixth", x.book(0), FULL);
            due("book(NONE) as the sixth", x.book(NONE), FULL);
            due("book(63) as the sixth", x.book(63), FULL);
            due("count(6)", x.count(6), 5);
            due("forget()", x.forget(), 5);
            due("book(0) behind forget()", x.book(0), 1);
        }
        SneezeKing passed = of("p50,p41,p32");
        for (int hours = 1; hours <= 5; hours++) {
            passed.book(NONE);
        }
        passed.hour(1);
        due("book(0) an hour later", passed.book(0), FULL);
    }

    private static void fitsOfFullBook() {
        sentence("21 and 22 a full book");
        SneezeKing x = of("p11,p21,p31,p41,p51");
        for (int i = 0; i < 5; i++) {
            x.book(NONE);
        }
        due("fits()", x.fits(), 1L << 25);
        for (int hour = 0; hour < 5; hour++) {
            due("sneezed(4, " + hour + ")", x.sneezed(4, hour), 1L << 24);
        }
        x.forget();
        for (int i = 0; i < 4; i++) {
            x.book(0);
        }
        x.book(2);
        // 27 sets of two or more and that of none leave no law; five of one bring law 1.
        due("fits() with a king in the last hour", x.fits(), 27L * 27 * 27 * 27 * 5);
        due("sneezed(0, 4)", x.sneezed(0, 4), 27L * 27 * 27 * 27);
        due("sneezed(0, 0)", x.sneezed(0, 0), 15L * 27 * 27 * 27 * 5);
    }

    private static void sneezers() {
        sentence("22 sneezed: UNKNOWN: councillor, hour");
        for (int seats = 3; seats <= 5; seats++) {
            String text = COUNCILS[seats - 3];
            for (int told = 0; told <= 5; told++) {
                int hours = told;
                range("hour of sneezed", 0, hours - 1, UNKNOWN, hour -> told(of(text), hours).sneezed(0, hour));
            }
            range("sneezed", 0, seats - 1, UNKNOWN, councillor -> told(of(text), 1).sneezed(councillor, 0));
        }
        due("sneezed(0, 0) without a council", told(new SneezeKing(), 5).sneezed(0, 0), UNKNOWN);
    }

    private static SneezeKing told(SneezeKing x, int hours) {
        for (int i = 0; i < hours; i++) {
            x.book(NONE);
        }
        return x;
    }

    private static void years() {
        sentence("23 years: OUTSIDE: hours (1 to 60), seed (0 at least), what; STATE: no council");
        for (String text : COUNCILS) {
            range("hours of years", 1, 60, OUTSIDE, hours -> of(text).years(hours, 5, 0));
            range("what of years, the first", 0, 2, OUTSIDE, what -> of(text).years(60, 5, what));
            range("what of years, the others", 10, 14, OUTSIDE, what -> of(text).years(60, 5, what));
            for (int what = 3; what <= 9; what++) {
                due("years(1, 0, " + what + ")", of(text).years(1, 0, what), OUTSIDE);
            }
            for (int seed : new int[] {-1, -2, MIN, MIN + 1}) {
                due("years(1, " + seed + ", 0)", of(text).years(1, seed, 0), OUTSIDE);
            }
        }
        due("years(1, 0, 2)", of("p00,p00,p00").years(1, 0, 2), 654583775);
        due("years(1, MAX, 0) of none that can sneeze", of("p00,p00,p00").years(1, MAX, 0), 0);
        due("years(1, 0, 0) without a council", new SneezeKing().years(1, 0, 0), STATE);
        due("years(60, MAX, 14) without a council", new SneezeKing().years(60, MAX, 14), STATE);
    }

    private static void counts() {
        sentence("26 count: OUTSIDE (0 to 8)");
        for (int what = 0; what <= 8; what++) {
            due("count(" + what + ") of a new one", new SneezeKing().count(what), what == 1 ? NONE : 0);
        }
        for (int what : new int[] {-1, 9, MIN, MAX}) {
            due("count(" + what + ") of a new one", new SneezeKing().count(what), OUTSIDE);
            due("count(" + what + ") of a council", of(COUNCILS[0]).count(what), OUTSIDE);
        }
        SneezeKing x = of(COUNCILS[2]);
        due("count(1) nowhere", x.count(1), NONE);
        x.draught(0);
        due("count(1) at the first", x.count(1), 0);
        x.draught(4);
        due("count(1) at the last", x.count(1), 4);
    }

    private static void digests() {
        sentence("27 digest: with a council, of each law; letters; wrapping");
        due("digest() of no council, no letters", new SneezeKing().digest(), digestOfPage());
        int[] codes = new int[20];
        SneezeKing full = new SneezeKing();
        for (int place = 0; place < 20; place++) {
            codes[place] = 126 - place;
            full.letter(codes[place]);
        }
        due("digest() of a full page", full.digest(), digestOfPage(codes));
        // Three of no nose: none is ever king, and no law ever holds.
        long h = 809;
        for (int councillor = 0; councillor < 3; councillor++) {
            for (int told : new int[] {0, 0, 0, 0, 0, 0, 1, councillor}) {
                h = 31 * h + told;
            }
        }
        h = 31 * h;
        for (int law = 0; law < 6; law++) {
            for (int told : new int[] {0, 1, law == 2 ? 0 : law}) {
                h = 31 * h + told;
            }
        }
        for (int told : new int[] {1, 3, NONE, 0, 0, 0, 0, 0, 0, 1}) {
            h = 31 * h + told;
        }
        due("digest() of a silent council", of("p00,p00,p00").digest(), h);
    }

    private static SneezeKing three() {
        SneezeKing x = of("p90,s91,d92,f93,c95");
        x.hour(8);
        x.draught(4);
        tell(x, "p90,s91,d92");
        x.council();
        x.book(NONE);
        return x;
    }

    private static void threeBehindFive() {
        sentence("5 council: another one is gone, with all that was");
        range("about", 0, 2, UNKNOWN, councillor -> three().about(councillor, 1));
        range("as", 0, 2, UNKNOWN, councillor -> three().as(councillor, 0));
        range("nose", 0, 2, UNKNOWN, councillor -> three().nose(councillor, 1));
        range("bribe", 0, 2, UNKNOWN, councillor -> three().bribe(councillor, 1));
        range("draught", NONE, 2, UNKNOWN, councillor -> three().draught(councillor));
        range("hour", 0, 7, OUTSIDE, set -> three().hour(set));
        range("king", NONE, 2, UNKNOWN, councillor -> three().king(councillor, 0));
        range("window", 0, 2, UNKNOWN, councillor -> three().window(councillor));
        range("sneezed", 0, 2, UNKNOWN, councillor -> three().sneezed(councillor, 0));
        due("draught(NONE)", three().draught(NONE), NONE);
        due("count(5)", three().count(5), 0);
        due("fits()", three().fits(), 8);
        due("years(60, 3, 13)", three().years(60, 3, 13), 0);
        due("years(60, 3, 14)", three().years(60, 3, 14), 0);
        SneezeKing x = three();
        x.hour(1);
        due("laws() behind an hour of the next council", x.laws(), 1);
        due("count(5) behind an hour of the next council", x.count(5), 1);
    }
}
