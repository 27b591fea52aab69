/** Each sentence of "What it is" and "Terms" that names a boundary, by a test of its own. */
public final class TermsTest extends Checks {
    public static void main(String[] args) {
        threeToFiveCouncillors();
        nextOneOfTheLast();
        commasBetween();
        lettersOfKinds();
        digitsOfNoses();
        digitsOfLaws();
        at512Calls();
        plainAndFevered();
        atFirst();
        hourThatComesNext();
        twoMoreWhereTheDraughtIs();
        oneMoreInEvenHours();
        threeMoreByPepper();
        nineAtMost();
        noTenthsWhileLaw3Holds();
        justOneSneezes();
        deanAmongTwoOrMore();
        lawTwoNeedsAnother();
        lawsThatEndOthers();
        nobodySaysNothing();
        likelyOrNot();
        behindSoManyHours();
        nowhereFirstThenByNumber();
        sayingAheadOfAllHours();
        statutesFromThoseNow();
        bookFromNowOn();
        fitsOfTenthsAboveZero();
        soManiethFromZero();
        drawBelowTenths();
        drawsThatWrap();
        yearsAlone();
        end();
    }

    private static void notRead(String text) {
        SneezeKing x = written(text);
        due("council() of " + text, x.council(), STATE);
        due("count(0)", x.count(0), 0);
    }

    private static void seatsOf(String text, int seats) {
        SneezeKing x = written(text);
        due("council() of " + text, x.council(), seats);
        due("count(0) of " + text, x.count(0), seats);
        due("about the last of " + text, x.about(seats - 1, 0), 0);
        due("about one more than the last of " + text, x.about(seats, 0), UNKNOWN);
    }

    private static void threeToFiveCouncillors() {
        sentence("three to five councillors");
        notRead("");
        notRead("p00");
        notRead("p00,p00");
        seatsOf("p00,p00,p00", 3);
        seatsOf("p00,p00,p00,p00", 4);
        seatsOf("p00,p00,p00,p00,p00", 5);
        notRead("p00,p00,p00,p00,p00,p00");
    }

    private static void kingBehind(String text, int set, int king) {
        SneezeKing x = of(text);
        due("hour(" + set + ") of " + text, x.hour(set), king);
        due("count(5) behind hour(" + set + ") of " + text, x.count(5), king == NONE ? 0 : 1);
        if (king != NONE) {
            due("about(" + king + ", 4) behind hour(" + set + ") of " + text, x.about(king, 4), 1);
        }
    }

    private static void nextOneOfTheLast() {
        sentence("the next one of the last is 0");
        kingBehind("p00,p00,s50", 4, 0);
        kingBehind("p00,p00,p00,s50", 8, 0);
        kingBehind("p00,p00,p00,p00,s50", 16, 0);
        kingBehind("p00,s50,p00", 2, 2);
        kingBehind("p00,p00,p00,s50,p00", 8, 4);
        SneezeKing x = of("p01,p00,s50");
        due("king(0, 1)", x.king(0, 1), 2);
        due("king(2, 0)", x.king(2, 0), 0);
        due("window(0)", x.window(0), 2);
        due("holds(1, 1, 1)", x.holds(1, 1, 1), 2);
        x.book(2);
        due("fits()", x.fits(), 1);
        due("sneezed(2, 0)", x.sneezed(2, 0), 1);
        // The seed 0 draws 0, 8, 8: the last one alone sneezes.
        x.nose(2, 9);
        due("years(1, 0, 10)", x.years(1, 0, 10), 1);
        due("years(1, 0, 12)", x.years(1, 0, 12), 0);
        SneezeKing fewer = of("s50,s50,s50,s50,s50");
        tell(fewer, "p00,p00,s50");
        fewer.council();
        due("hour(4) of three behind five", fewer.hour(4), 0);
    }

    private static void faultAt(String text, int place) {
        SneezeKing x = written(text);
        due("fault() of " + text, x.fault(), place);
        if (place < text.length()) {
            due("council() of " + text, x.council(), STATE);
        }
    }

    private static void commasBetween() {
        sentence("with ',' between");
        faultAt("p00p00p00", 3);
        faultAt(",p00,p00,p00", 0);
        faultAt("p00,,p00,p00", 4);
        faultAt("p00,p00,p00-p00", 11);
        faultAt("p00,p00,p00+p00", 11);
        notRead("p00,p00,p00,");
        notRead("p00,p00,p00,p00,");
        notRead("p00,p00,p00,p00,p00,");
        notRead("p00,p00,p00,p");
        notRead("p00,p00,p00,p0");
    }

    private static void lettersOfKinds() {
        sentence("kinds, told by the letter");
        String kinds = "psfdc";
        for (int place = 0; place <= 16; place += 4) {
            String ahead = "p00,p00,p00,p00,".substring(0, place);
            for (int code = 1; code <= 126; code++) {
                boolean is = kinds.indexOf(code) >= 0;
                due("fault() of letter " + code + " at " + place, written(ahead + (char) code).fault(), is ? place + 1 : place);
            }
        }
        for (int kind = 0; kind < 5; kind++) {
            SneezeKing x = of("p00,p00," + kinds.charAt(kind) + "00");
            due("about(2, 0) of letter " + kinds.charAt(kind), x.about(2, 0), kind);
        }
    }

    private static void digitsOfNoses() {
        sentence("a digit nose (0 to 9)");
        for (int place = 1; place <= 17; place += 4) {
            String ahead = "p00,p00,p00,p00,p".substring(0, place);
            for (int code = 1; code <= 126; code++) {
                boolean is = code >= 48 && code <= 57;
                due("fault() of letter " + code + " at " + place, written(ahead + (char) code).fault(), is ? place + 1 : place);
            }
        }
        for (int v = 0; v <= 9; v++) {
            due("about(2, 1) of a nose told as " + v, of("p00,p00,p" + v + "0").about(2, 1), v);
        }
    }

    private static void digitsOfLaws() {
        sentence("a digit law (0 to 5)");
        for (int place = 2; place <= 18; place += 4) {
            String ahead = "p00,p00,p00,p00,p0".substring(0, place);
            for (int code = 1; code <= 126; code++) {
                boolean is = code >= 48 && code <= 53;
                due("fault() of letter " + code + " at " + place, written(ahead + (char) code).fault(), is ? place + 1 : place);
            }
        }
        for (int law = 0; law <= 5; law++) {
            due("about(2, 2) of a law told as " + law, of("p00,p00,p0" + law).about(2, 2), law);
        }
    }

    private static void at512Calls() {
        sentence("at most 512 calls");
        // Twelve calls are behind the council.
        SneezeKing hours = of("p90,p00,p00");
        for (int i = 0; i < 499; i++) {
            hours.hour(1);
        }
        due("count(5) as the 512th call", hours.count(5), 499);
        SneezeKing odd = of("f90,p00,p00");
        for (int i = 0; i < 499; i++) {
            odd.hour(0);
        }
        due("about(0, 3) as the 512th call", odd.about(0, 3), 9);
        SneezeKing years = of("f00,p00,p00");
        for (int i = 0; i < 499; i++) {
            years.hour(0);
        }
        due("years(1, 0, 0) as the 512th call", years.years(1, 0, 0), 0);
        SneezeKing image = of("p90,p00,p00");
        image.image();
        for (int i = 0; i < 249; i++) {
            image.hour(1);
            image.restore();
        }
        due("count(5) behind 249 times of restore", image.count(5), 0);
        SneezeKing book = new SneezeKing();
        for (int i = 0; i < 255; i++) {
            book.book(63);
            book.forget();
        }
        book.book(63);
        due("count(6) as the 512th call", book.count(6), 1);
        SneezeKing page = new SneezeKing();
        for (int i = 0; i < 255; i++) {
            page.letter('p');
            page.blank();
        }
        due("count(7) behind 510 calls", page.count(7), 0);
        SneezeKing read = new SneezeKing();
        for (int i = 0; i < 42; i++) {
            tell(read, "p00,p00,p00");
            read.council();
        }
        due("count(8) behind 504 calls", read.count(8), 42);
    }

    private static void plainAndFevered() {
        sentence("all are PLAIN; a CAT is FEVERED, too");
        SneezeKing x = of("p00,s00,f00,d00,c00");
        for (int councillor = 0; councillor < 5; councillor++) {
            due("as(" + councillor + ", PLAIN)", x.as(councillor, 0), councillor);
        }
        due("as(cat, FEVERED)", x.as(4, 2), 4);
        due("as(fevered, CAT)", x.as(2, 4), NONE);
        due("as(cat, STIFLER)", x.as(4, 1), NONE);
        due("as(cat, DEAN)", x.as(4, 3), NONE);
        due("as(stifler, FEVERED)", x.as(1, 2), NONE);
        due("about(cat, 0)", x.about(4, 0), 4);
    }

    private static void atFirst() {
        sentence("at first there is no council, nowhere, no pepper, no law, hour 0");
        int[] first = {0, NONE, 0, 0, 0, 0, 0, 0, 0};
        SneezeKing x = new SneezeKing();
        for (int what = 0; what <= 8; what++) {
            due("count(" + what + ")", x.count(what), first[what]);
        }
        due("laws()", x.laws(), 0);
        SneezeKing read = of("p90,p91,p92");
        read.hour(2);
        read.draught(0);
        read.pepper(true);
        read.book(5);
        read.book(NONE);
        read.nose(1, 4);
        read.bribe(2, 5);
        tell(read, "p90,p91,p92");
        read.council();
        due("digest() of a council read behind another one, but for count(8)", read.digest(), of("p90,p91,p92").digest() + 1);
    }

    private static void hourThatComesNext() {
        sentence("the hour that comes next has the number that count(4) tells, the first one 0");
        SneezeKing x = of("f40,p40,p40");
        for (int number = 0; number < 6; number++) {
            due("count(4)", x.count(4), number);
            due("about(0, 3) ahead of hour " + number, x.about(0, 3), number % 2 == 0 ? 5 : 4);
            due("image() ahead of hour " + number, x.image(), number);
            x.hour(number % 2 == 0 ? 0 : 2);
        }
        due("hour(8) is refused", x.hour(8), OUTSIDE);
        due("count(4) behind an hour that was refused", x.count(4), 6);
    }

    private static void tenths(String call, SneezeKing x, int councillor, int want) {
        due("about(" + councillor + ", 3) of " + call, x.about(councillor, 3), want);
    }

    private static void twoMoreWhereTheDraughtIs() {
        sentence("2 more where the draught is");
        SneezeKing x = of("p00,p30,p00,p00,p30");
        tenths("nowhere", x, 0, 0);
        due("hour(1) with the draught nowhere", x.hour(1), OUTSIDE);
        x.draught(0);
        tenths("the first", x, 0, 2);
        tenths("another one", x, 1, 3);
        due("hour(1) in the draught", x.hour(1), 0);
        x.draught(4);
        tenths("the first, left by it", x, 0, 0);
        tenths("the last", x, 4, 5);
        x.draught(NONE);
        tenths("the last, left by it", x, 4, 3);
    }

    private static void oneMoreInEvenHours() {
        sentence("1 more for a FEVERED one (a CAT) if the number of the hour is even");
        SneezeKing x = of("f00,c00,p00,s00,d00");
        due("hour(1) in hour 0", x.hour(1), 0);
        due("hour(1) in hour 1", x.hour(1), OUTSIDE);
        due("hour(2) in hour 1", x.hour(2), OUTSIDE);
        due("hour(0) in hour 1", x.hour(0), NONE);
        due("hour(4) in hour 2", x.hour(4), OUTSIDE);
        due("hour(8) in hour 2", x.hour(8), OUTSIDE);
        due("hour(16) in hour 2", x.hour(16), OUTSIDE);
        due("hour(2) in hour 2", x.hour(2), 1);
    }

    private static void threeMoreByPepper() {
        sentence("3 more for a CAT if there is pepper");
        SneezeKing x = of("p00,s00,f00,d00,c00");
        x.pepper(true);
        int[] even = {0, 0, 1, 0, 4}, odd = {0, 0, 0, 0, 3}, without = {0, 0, 1, 0, 1};
        for (int c = 0; c < 5; c++) {
            tenths("pepper in an even hour", x, c, even[c]);
        }
        x.hour(0);
        for (int c = 0; c < 5; c++) {
            tenths("pepper in an odd hour", x, c, odd[c]);
        }
        x.hour(0);
        x.pepper(false);
        for (int c = 0; c < 5; c++) {
            tenths("no pepper any more", x, c, without[c]);
        }
    }

    private static void nineAtMost() {
        sentence("9 at most");
        SneezeKing x = of("p70,f80,c50,c90,d90");
        x.draught(0);
        x.pepper(true);
        int[] exact = {9, 9, 9, 9, 9};
        for (int c = 0; c < 5; c++) {
            tenths("just 9, or above", x, c, exact[c]);
        }
        x.nose(0, 8);
        x.nose(1, 9);
        x.nose(2, 6);
        for (int c = 0; c < 5; c++) {
            tenths("10 or above", x, c, 9);
            x.draught(c);
            tenths("10 or above in the draught", x, c, 9);
            x.draught(0);
        }
        SneezeKing alone = of("p90,p00,p00");
        alone.draught(0);
        due("king(0, 0)", alone.king(0, 0), 9);
        due("king(0, 1)", alone.king(0, 1), 10);
        due("king(NONE, 0)", alone.king(NONE, 0), 1);
        due("holds(0, 3, 0)", alone.holds(0, 3, 0), 999);
        due("window(0), which is nowhere likelier", alone.window(0), NONE);
        // The seed of all bits draws 9 first.
        due("years(1, MAX, 0)", alone.years(1, MAX, 0), 0);
    }

    private static void noTenthsWhileLaw3Holds() {
        sentence("0 for all who are no CATS while LAW 3 holds");
        SneezeKing x = of("p93,s90,f90,d90,c00");
        x.hour(1);
        for (int c = 0; c < 4; c++) {
            x.draught(c);
            tenths("law 3", x, c, 0);
            due("hour of " + c + " alone", x.hour(1 << c), OUTSIDE);
        }
        due("hour(16) of a cat of no nose in an odd hour", x.hour(16), OUTSIDE);
        due("hour(0)", x.hour(0), NONE);
        for (int c = 0; c < 4; c++) {
            tenths("law 3 in an even hour", x, c, 0);
        }
        x.draught(4);
        x.pepper(true);
        tenths("law 3, a cat", x, 4, 6);
        due("king(NONE, 0)", x.king(NONE, 0), 2);
        due("king(4, 0)", x.king(4, 0), 3);
        x.bribe(4, 5);
        due("hour(16)", x.hour(16), 4);
        due("laws()", x.laws(), 32);
        tenths("law 3 no more", x, 0, 9);
        SneezeKing other = of("c94,p93,p90");
        other.hour(2);
        tenths("law 3", other, 2, 0);
        other.hour(1);
        due("laws()", other.laws(), 16);
        tenths("law 3 undone by law 4", other, 2, 9);
    }

    private static void justOneSneezes() {
        sentence("if just one sneezes he is, but instead of a STIFLER the next one");
        String text = "p50,s50,s50,d50,c50";
        kingBehind(text, 0, NONE);
        kingBehind(text, 1, 0);
        kingBehind(text, 2, 2);
        kingBehind(text, 4, 3);
        kingBehind(text, 8, 3);
        kingBehind(text, 16, 4);
        kingBehind(text, 6, NONE);
        kingBehind(text, 3, NONE);
    }

    private static void deanAmongTwoOrMore() {
        sentence("if two or more sneeze, the DEAN among them, if there is just one among them; else nobody");
        String text = "d50,p50,s50,d50,c50";
        kingBehind(text, 18, NONE);
        kingBehind(text, 22, NONE);
        kingBehind(text, 3, 0);
        kingBehind(text, 12, 3);
        kingBehind(text, 23, 0);
        kingBehind(text, 30, 3);
        kingBehind(text, 9, NONE);
        kingBehind(text, 11, NONE);
        kingBehind(text, 31, NONE);
        kingBehind("p50,p50,d50,p50,p50", 31, 2);
    }

    private static void saidAndHolds(SneezeKing x, int law, int want) {
        x.bribe(0, law);
        due("hour(1)", x.hour(1), 0);
        due("laws() behind law " + law, x.laws(), want);
    }

    private static void lawTwoNeedsAnother() {
        sentence("2 just if 0 or 1 held (else nothing is otherwise by it)");
        saidAndHolds(of("c90,p00,p00"), 2, 0);
        SneezeKing zero = of("c90,p00,p00");
        saidAndHolds(zero, 0, 1);
        saidAndHolds(zero, 2, 5);
        SneezeKing one = of("c90,p00,p00");
        saidAndHolds(one, 1, 2);
        saidAndHolds(one, 2, 6);
        SneezeKing both = of("c90,p00,p00");
        saidAndHolds(both, 1, 2);
        saidAndHolds(both, 0, 3);
        saidAndHolds(both, 2, 7);
        saidAndHolds(both, 2, 7);
        SneezeKing others = of("c90,p00,p00");
        saidAndHolds(others, 4, 16);
        saidAndHolds(others, 3, 24);
        saidAndHolds(others, 2, 24);
        saidAndHolds(others, 5, 48);
        saidAndHolds(others, 2, 48);
        due("about(0, 4), king though nothing is otherwise", others.about(0, 4), 5);
    }

    private static void lawsThatEndOthers() {
        sentence("by 1 law 0 holds no more, by 5 law 3, by 4 all others");
        SneezeKing x = of("c90,p00,p00");
        saidAndHolds(x, 4, 16);
        saidAndHolds(x, 1, 18);
        saidAndHolds(x, 0, 19);
        saidAndHolds(x, 2, 23);
        saidAndHolds(x, 5, 55);
        saidAndHolds(x, 3, 63);
        saidAndHolds(x, 1, 62);
        saidAndHolds(x, 0, 63);
        saidAndHolds(x, 5, 55);
        saidAndHolds(x, 3, 63);
        saidAndHolds(x, 2, 63);
        due("count(3) of all laws", x.count(3), 6);
        saidAndHolds(x, 4, 16);
        saidAndHolds(x, 4, 16);
        due("count(3) of one law", x.count(3), 1);
    }

    private static void nobodySaysNothing() {
        sentence("else nobody; the king says his law");
        SneezeKing x = of("p90,p91,p93");
        due("hour(0)", x.hour(0), NONE);
        due("hour(7)", x.hour(7), NONE);
        due("laws()", x.laws(), 0);
        due("count(4)", x.count(4), 2);
        due("count(5)", x.count(5), 0);
    }

    private static void kingIs(SneezeKing x, int councillor, long above, long below) {
        due("king(" + councillor + ", 0)", x.king(councillor, 0), above);
        due("king(" + councillor + ", 1)", x.king(councillor, 1), below);
    }

    private static void likelyOrNot() {
        sentence("how likely one is king; nobody is; in lowest terms");
        SneezeKing never = of("p00,p00,p00");
        kingIs(never, 0, 0, 1);
        kingIs(never, 2, 0, 1);
        kingIs(never, NONE, 1, 1);
        SneezeKing five = of("p10,p10,p10,p10,p10");
        kingIs(five, 4, 6561, 100000);
        kingIs(five, NONE, 13439, 20000);
        SneezeKing dean = of("d90,p90,p90,p90,p90");
        kingIs(dean, 0, 9, 10);
    }

    private static void holdsIs(SneezeKing x, int law, int hours, long above, long below) {
        due("holds(" + law + ", " + hours + ", 0)", x.holds(law, hours, 0), above);
        due("holds(" + law + ", " + hours + ", 1)", x.holds(law, hours, 1), below);
    }

    private static void behindSoManyHours() {
        sentence("how likely a law holds behind so many hours (0 to 3)");
        SneezeKing x = of("c50,p00,p00");
        holdsIs(x, 0, 0, 0, 1);
        // 6 of 10 in an even hour, 5 of 10 in an odd one.
        holdsIs(x, 0, 1, 3, 5);
        holdsIs(x, 0, 2, 4, 5);
        holdsIs(x, 0, 3, 23, 25);
        x.hour(1);
        for (int hours = 0; hours <= 3; hours++) {
            holdsIs(x, 0, hours, 1, 1);
            holdsIs(x, 5, hours, 0, 1);
        }
        SneezeKing ban = of("p33,p00,c05");
        ban.hour(4);
        // Behind the ban the plain one is silent until the cat ends it, in even hours alone:
        // 0.3, then 0.3 * 0.9 and 0.7 * 0.3 * 0.9, then 0.459 and 0.541 * 0.3.
        holdsIs(ban, 3, 1, 3, 10);
        holdsIs(ban, 3, 2, 459, 1000);
        holdsIs(ban, 3, 3, 6213, 10000);
    }

    private static void windowIs(String text, int councillor, int where) {
        due("window(" + councillor + ") of " + text, of(text).window(councillor), where);
    }

    private static void nowhereFirstThenByNumber() {
        sentence("where it had best be (nowhere first, then by number)");
        // In no draught at all he is as likely king as in his own.
        windowIs("p90,p00,p00", 0, NONE);
        windowIs("p00,p00,d90", 2, NONE);
        // None helps him but himself.
        windowIs("p10,p10,p10,p10,p10", 4, 4);
        windowIs("p10,p10,p10,p10,p10", 0, 0);
        // A stifler without one ahead of him is never king.
        windowIs("p00,s00,p00", 1, NONE);
        // 0.21 nowhere, 0.266 at 0, 0.35 at 2.
        windowIs("p00,p30,s30", 0, 2);
        // Alike at the first and at the last (0.65 each, then 0.5 each).
        windowIs("d30,s00,p00,p00,s30", 0, 0);
        windowIs("p30,p00,s30", 0, 0);
        windowIs("p00,s30,p30", 2, 1);
        SneezeKing x = of("p50,p50,p50");
        x.draught(2);
        due("window(1) wherever the draught is now", x.window(1), 1);
    }

    private static void sayingAheadOfAllHours() {
        sentence("saying (ahead of all hours; no hour goes by with it), of like ones the least");
        SneezeKing x = of("f01,p00,p00");
        // In hour 0 he undoes law 0 by one of ten; in hour 1 he is silent.
        due("saying(0, 0)", x.saying(0, 0), 0);
        due("saying(0, 2)", x.saying(0, 2), 0);
        due("saying(1, 0)", x.saying(1, 0), 1);
        due("saying(3, 2)", x.saying(3, 2), 3);
        due("saying(2, 0), which none brings", x.saying(2, 0), 0);
        due("count(4)", x.count(4), 0);
        due("laws()", x.laws(), 0);
        SneezeKing two = of("f02,p00,p00");
        two.hour(0);
        due("saying(2, 1) in an odd hour", two.saying(2, 1), 0);
        // Laws 0 and 3 hold: 2 now surely holds, by 5 it can be said in the hour, by 0 never.
        SneezeKing rising = of("p90,p00,p00");
        for (int law : new int[] {0, 3}) {
            rising.bribe(0, law);
            rising.hour(1);
        }
        rising.bribe(0, 2);
        due("saying(2, 1) with a lesser one behind the best", rising.saying(2, 1), 2);
        SneezeKing held = of("c95,p00,p00");
        held.hour(1);
        due("saying(5, 0) of one that holds whichever is said but 4", held.saying(5, 0), 0);
        due("saying(4, 1)", held.saying(4, 1), 4);
        due("saying(5, 2)", held.saying(5, 2), 0);
    }

    private static void statutesAre(SneezeKing x, int set, int fewest, int first) {
        due("statutes(" + set + ", 0)", x.statutes(set, 0), fewest);
        due("statutes(" + set + ", 1)", x.statutes(set, 1), first);
    }

    private static void statutesFromThoseNow() {
        sentence("by how few laws (0 to 6; from those on that hold now) just a told set holds; the least; none");
        SneezeKing x = of("c90,p00,p00");
        statutesAre(x, 0, 0, NONE);
        statutesAre(x, 63, 6, 4);
        statutesAre(x, 47, 5, 1);
        statutesAre(x, 61, 5, 4);
        statutesAre(x, 4, NONE, NONE);
        statutesAre(x, 60, NONE, NONE);
        // 0 and 3, or 3 and 0: the least row begins with 0.
        statutesAre(x, 9, 2, 0);
        saidAndHolds(x, 0, 1);
        statutesAre(x, 1, 0, NONE);
        statutesAre(x, 0, NONE, NONE);
        statutesAre(x, 3, 2, 1);
        saidAndHolds(x, 4, 16);
        statutesAre(x, 63, 5, 1);
        statutesAre(x, 16, 0, NONE);
        statutesAre(x, 32, NONE, NONE);
        saidAndHolds(x, 5, 48);
        statutesAre(x, 16, 1, 4);
        statutesAre(x, 56, 1, 3);
    }

    private static void bookFromNowOn() {
        sentence("a book: of hours from now on (5 at most), as bits, or nothing (NONE)");
        SneezeKing x = of("f02,p00,p50");
        due("fits() of an empty book", x.fits(), 1);
        for (int i = 1; i <= 5; i++) {
            due("book(NONE)", x.book(NONE), i);
        }
        // The fevered one can sneeze in hours 0, 2 and 4.
        due("fits() of a full book", x.fits(), 4 * 2 * 4 * 2 * 4);
        due("sneezed(0, 4)", x.sneezed(0, 4), 2 * 2 * 4 * 2 * 4);
        due("sneezed(0, 3)", x.sneezed(0, 3), 0);
        x.hour(0);
        due("fits() an hour later", x.fits(), 2 * 4 * 2 * 4 * 2);
        due("sneezed(0, 3) an hour later", x.sneezed(0, 3), 2 * 4 * 2 * 2 * 2);
        x.forget();
        due("fits() of a book that was forgotten", x.fits(), 1);
        x.book(0);
        due("fits() of no laws", x.fits(), 1);
        x.forget();
        x.book(1);
        due("fits() of law 0", x.fits(), 1);
        x.book(NONE);
        x.book(1);
        // Behind law 0 the fevered one, king alone in hour 2, would say law 2.
        due("fits() of law 0, nothing told, law 0", x.fits(), 6);
        x.forget();
        x.book(63);
        due("fits() of what can't be", x.fits(), 0);
        due("sneezed(0, 0) of what can't be", x.sneezed(0, 0), 0);
    }

    private static void fitsOfTenthsAboveZero() {
        sentence("in how many ways they can have sneezed (all of tenths above 0)");
        SneezeKing x = of("p00,p00,p00");
        x.book(NONE);
        due("fits() of none that can sneeze", x.fits(), 1);
        x.nose(1, 1);
        due("fits() of one", x.fits(), 2);
        x.nose(0, 9);
        x.nose(2, 9);
        due("fits() of all", x.fits(), 8);
        SneezeKing ban = of("p93,s90,c90");
        ban.book(8);
        ban.book(NONE);
        due("fits() behind a ban", ban.fits(), 2);
        due("sneezed(0, 1) behind a ban", ban.sneezed(0, 1), 0);
        due("sneezed(2, 1) behind a ban", ban.sneezed(2, 1), 1);
    }

    private static void soManiethFromZero() {
        sentence("one sneezed in an hour (the so-manieth of the book, from 0)");
        SneezeKing x = of("p50,p51,p00");
        x.book(1);
        x.book(2);
        due("sneezed(0, 0)", x.sneezed(0, 0), 1);
        due("sneezed(0, 1)", x.sneezed(0, 1), 0);
        due("sneezed(1, 0)", x.sneezed(1, 0), 0);
        due("sneezed(1, 1)", x.sneezed(1, 1), 1);
        due("sneezed(1, 2)", x.sneezed(1, 2), UNKNOWN);
        x.hour(1);
        x.forget();
        x.book(2);
        due("sneezed(1, 0) from hour 1 on", x.sneezed(1, 0), 1);
    }

    private static void drawBelowTenths() {
        sentence("by number, each sneezes, if a draw of 10 is below his tenths");
        // The seed 7 draws 4, 6, 8.
        due("years(1, 7, 0) at 4", of("p40,p00,p00").years(1, 7, 0), 0);
        due("years(1, 7, 0) at 5", of("p50,p00,p00").years(1, 7, 0), 1);
        due("years(1, 7, 11) at 6", of("p00,p60,p00").years(1, 7, 11), 0);
        due("years(1, 7, 11) at 7", of("p00,p70,p00").years(1, 7, 11), 1);
        due("years(1, 7, 12) at 8", of("p00,p00,p80").years(1, 7, 12), 0);
        due("years(1, 7, 12) at 9", of("p00,p00,p90").years(1, 7, 12), 1);
        // The seed 0 draws 0 first, and no draw is below no tenths.
        due("years(1, 0, 0) at 0", of("p00,p00,p00").years(1, 0, 0), 0);
        due("years(1, 0, 10) at 1", of("p10,p00,p00").years(1, 0, 10), 1);
        SneezeKing fevered = of("f00,p00,p00");
        due("years(1, 0, 10) in hour 0", fevered.years(1, 0, 10), 1);
        fevered.hour(0);
        due("years(1, 0, 10) in hour 1", fevered.years(1, 0, 10), 0);
    }

    private static void drawsThatWrap() {
        sentence("draws: 1103515245 times the seed and 12345, its rest by 2 to the 31; by 65536, its rest");
        SneezeKing x = of("p90,p91,p92");
        due("years(60, 0, 2)", x.years(60, 0, 2), seedBehind(0, 180));
        due("years(1, 0, 2)", x.years(1, 0, 2), 654583775);
        due("years(1, 1, 2)", x.years(1, 1, 2), seedBehind(1, 3));
        due("years(1, MAX, 2)", x.years(1, MAX, 2), seedBehind(MAX, 3));
        due("years(60, MAX, 2)", x.years(60, MAX, 2), seedBehind(MAX, 180));
        due("years(60, 1 << 30, 2)", x.years(60, 1 << 30, 2), seedBehind(1 << 30, 180));
        SneezeKing five = of("p10,p20,p30,p40,p50");
        due("years(60, 0, 2) of five", five.years(60, 0, 2), 1682978852);
        due("years(60, MAX, 2) of five", five.years(60, MAX, 2), 794474355);
        due("years(60, 7, 2) of five", five.years(60, 7, 2), 1460059387);
        for (int seed = 0; seed < 30; seed++) {
            firstDraw(seed);
            firstDraw(MAX - seed);
        }
        // The seed of all bits draws 9, 9, 2, 8, 3: the third and the fifth sneeze, if at all.
        due("years(1, MAX, 12)", five.years(1, MAX, 12), 0);
        five.nose(2, 2);
        due("years(1, MAX, 14)", five.years(1, MAX, 14), 1);
        five.nose(2, 3);
        five.nose(4, 3);
        due("years(1, MAX, 12)", five.years(1, MAX, 12), 1);
    }

    /** The first draw of a seed, by the noses for which the first one sneezes. */
    private static void firstDraw(int seed) {
        long draw = seedBehind(seed, 1) / 65536 % 10;
        for (int v = 0; v <= 9; v++) {
            due("years(1, " + seed + ", 10) of a nose of " + v, of("p" + v + "0,p00,p00").years(1, seed, 10), draw < v ? 1 : 0);
        }
    }

    private static long seedBehind(long seed, int draws) {
        java.math.BigInteger now = java.math.BigInteger.valueOf(seed);
        for (int i = 0; i < draws; i++) {
            now = now.multiply(java.math.BigInteger.valueOf(1103515245)).add(java.math.BigInteger.valueOf(12345));
            now = now.mod(java.math.BigInteger.TWO.pow(31));
        }
        return now.longValueExact();
    }

    private static void yearsAlone() {
        sentence("how often one was king (in these hours alone; a councillor that there is not: 0)");
        SneezeKing x = of("p00,p00,p00,d90,c90");
        int four = x.years(60, 3, 13), five = x.years(60, 3, 14);
        due("years(60, 3, 0)", x.years(60, 3, 0), four + five);
        due("whether both were king", four > 0 && five > 0 ? 1 : 0, 1);
        due("years(60, 3, 13) once more", x.years(60, 3, 13), four);
        x.hour(8);
        x.hour(0);
        due("years(60, 3, 13) behind two hours", x.years(60, 3, 13), four);
        due("about(3, 4) behind years", x.about(3, 4), 1);
        SneezeKing held = of("p91,p00,p00");
        held.hour(1);
        due("years(1, 0, 1) without a king", of("p00,p00,p00").years(1, 0, 1), 0);
        due("years(1, 0, 1) from no laws", of("p92,p00,p00").years(1, 0, 1), 0);
        held.bribe(0, 2);
        due("years(1, 0, 1) from law 1", held.years(1, 0, 1), 6);
        held.bribe(0, 3);
        due("years(60, 0, 10) until law 3 holds", held.years(60, 0, 10), 1);
        due("years(60, 0, 1) until law 3 holds", held.years(60, 0, 1), 10);
        held.hour(1);
        due("years(60, 0, 10) while law 3 holds", held.years(60, 0, 10), 0);
        tell(x, "p90,p90,p90");
        x.council();
        due("years(60, 3, 13) of three", x.years(60, 3, 13), 0);
        due("years(60, 3, 14) of three", x.years(60, 3, 14), 0);
        due("whether one of three was king", x.years(60, 3, 0) > 0 ? 1 : 0, 1);
    }
}
