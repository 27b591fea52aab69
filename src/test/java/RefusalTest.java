import java.util.ArrayList;
import java.util.List;

/** "Refusals, of several the first as told by each call [..]; they change nothing." */
public final class RefusalTest extends Checks {
    private interface Call {
        long on(SneezeKing x);
    }

    private interface Build {
        SneezeKing make();
    }

    private record Refused(String name, int by, Call call) { }

    public static void main(String[] args) {
        sentence("a new object");
        changeNothing(SneezeKing::new, withoutCouncil());
        changeNothing(SneezeKing::new, always());
        sentence("no council, a page, a book");
        changeNothing(RefusalTest::pageAndBook, withoutCouncil());
        changeNothing(RefusalTest::pageAndBook, always());
        sentence("no council, a full page, a full book");
        changeNothing(() -> filled(new SneezeKing()), withoutCouncil());
        changeNothing(() -> filled(new SneezeKing()), always());
        changeNothing(() -> filled(new SneezeKing()), whenFull());
        sentence("a council, hours behind it, an image");
        changeNothing(RefusalTest::midway, withCouncil());
        changeNothing(RefusalTest::midway, always());
        sentence("a council, an image, a full page, a full book");
        changeNothing(() -> filled(midway()), withCouncil());
        changeNothing(() -> filled(midway()), always());
        changeNothing(() -> filled(midway()), whenFull());
        sentence("a council read since the image");
        changeNothing(RefusalTest::readSince, withCouncil());
        changeNothing(RefusalTest::readSince, always());
        changeNothing(RefusalTest::readSince, withoutImage());
        tellingChangesNothing();
        refusedRestoreKeepsAll();
        end();
    }

    private static SneezeKing pageAndBook() {
        SneezeKing x = written("p50,s41,d3");
        x.book(3);
        x.book(NONE);
        return x;
    }

    private static SneezeKing midway() {
        SneezeKing x = of("s40,f31,d22,c53");
        x.hour(2);
        x.hour(1);
        x.draught(1);
        x.pepper(true);
        x.nose(0, 7);
        x.bribe(2, 5);
        x.book(NONE);
        x.book(34);
        x.image();
        x.hour(4);
        x.draught(3);
        x.nose(1, 0);
        x.bribe(0, 1);
        x.forget();
        x.book(NONE);
        tell(x, "d9x");
        return x;
    }

    private static SneezeKing readSince() {
        SneezeKing x = midway();
        x.blank();
        tell(x, "s40,f31,d22,c53");
        x.council();
        x.hour(0);
        x.nose(1, 0);
        x.book(NONE);
        tell(x, "d9x");
        return x;
    }

    private static SneezeKing filled(SneezeKing x) {
        for (int i = 0; i < 20; i++) {
            x.letter('p');
        }
        for (int i = 0; i < 5; i++) {
            x.book(NONE);
        }
        return x;
    }

    /** Two objects made alike: one is asked what is refused, and both are the same behind it, the image too. */
    private static void changeNothing(Build build, List<Refused> calls) {
        for (Refused refused : calls) {
            SneezeKing x = build.make(), y = build.make();
            due(refused.name, refused.call.on(x), refused.by);
            same(refused.name, whole(x), whole(y));
            due("restore() behind " + refused.name, x.restore(), y.restore());
            same("restore() behind " + refused.name, whole(x), whole(y));
        }
    }

    private static void add(List<Refused> all, String name, int by, Call call) {
        all.add(new Refused(name, by, call));
    }

    /** Refused in any state; where a range and a full page or book refuse, the range is told first. */
    private static List<Refused> always() {
        List<Refused> all = new ArrayList<>();
        add(all, "letter(0)", OUTSIDE, x -> x.letter(0));
        add(all, "letter(127)", OUTSIDE, x -> x.letter(127));
        add(all, "letter(MIN)", OUTSIDE, x -> x.letter(MIN));
        add(all, "council()", STATE, x -> x.council());
        add(all, "about(5, 0)", UNKNOWN, x -> x.about(5, 0));
        add(all, "about(5, 5)", UNKNOWN, x -> x.about(5, 5));
        add(all, "about(-1, -1)", UNKNOWN, x -> x.about(-1, -1));
        add(all, "as(5, 0)", UNKNOWN, x -> x.as(5, 0));
        add(all, "as(5, 5)", UNKNOWN, x -> x.as(5, 5));
        add(all, "as(-1, -1)", UNKNOWN, x -> x.as(-1, -1));
        add(all, "nose(5, 1)", UNKNOWN, x -> x.nose(5, 1));
        add(all, "nose(5, 10)", UNKNOWN, x -> x.nose(5, 10));
        add(all, "nose(-1, -1)", UNKNOWN, x -> x.nose(-1, -1));
        add(all, "bribe(5, 1)", UNKNOWN, x -> x.bribe(5, 1));
        add(all, "bribe(5, 6)", UNKNOWN, x -> x.bribe(5, 6));
        add(all, "bribe(-1, -1)", UNKNOWN, x -> x.bribe(-1, -1));
        add(all, "draught(5)", UNKNOWN, x -> x.draught(5));
        add(all, "draught(-2)", UNKNOWN, x -> x.draught(-2));
        add(all, "hour(32)", OUTSIDE, x -> x.hour(32));
        add(all, "hour(-1)", OUTSIDE, x -> x.hour(-1));
        add(all, "hour(MIN)", OUTSIDE, x -> x.hour(MIN));
        add(all, "king(5, 0)", UNKNOWN, x -> x.king(5, 0));
        add(all, "king(5, 2)", UNKNOWN, x -> x.king(5, 2));
        add(all, "king(-2, -1)", UNKNOWN, x -> x.king(-2, -1));
        add(all, "king(NONE, 2)", OUTSIDE, x -> x.king(NONE, 2));
        add(all, "king(NONE, -1)", OUTSIDE, x -> x.king(NONE, -1));
        add(all, "holds(6, 0, 0)", OUTSIDE, x -> x.holds(6, 0, 0));
        add(all, "holds(0, 4, 0)", OUTSIDE, x -> x.holds(0, 4, 0));
        add(all, "holds(0, 0, 2)", OUTSIDE, x -> x.holds(0, 0, 2));
        add(all, "holds(-1, -1, -1)", OUTSIDE, x -> x.holds(-1, -1, -1));
        add(all, "window(5)", UNKNOWN, x -> x.window(5));
        add(all, "window(NONE)", UNKNOWN, x -> x.window(NONE));
        add(all, "saying(6, 0)", OUTSIDE, x -> x.saying(6, 0));
        add(all, "saying(0, 3)", OUTSIDE, x -> x.saying(0, 3));
        add(all, "saying(-1, -1)", OUTSIDE, x -> x.saying(-1, -1));
        add(all, "statutes(64, 0)", OUTSIDE, x -> x.statutes(64, 0));
        add(all, "statutes(0, 2)", OUTSIDE, x -> x.statutes(0, 2));
        add(all, "statutes(-1, -1)", OUTSIDE, x -> x.statutes(-1, -1));
        add(all, "book(64)", OUTSIDE, x -> x.book(64));
        add(all, "book(-2)", OUTSIDE, x -> x.book(-2));
        add(all, "book(MAX)", OUTSIDE, x -> x.book(MAX));
        add(all, "sneezed(5, 0)", UNKNOWN, x -> x.sneezed(5, 0));
        add(all, "sneezed(0, 5)", UNKNOWN, x -> x.sneezed(0, 5));
        add(all, "sneezed(0, -1)", UNKNOWN, x -> x.sneezed(0, -1));
        add(all, "years(0, 0, 0)", OUTSIDE, x -> x.years(0, 0, 0));
        add(all, "years(61, 0, 0)", OUTSIDE, x -> x.years(61, 0, 0));
        add(all, "years(1, -1, 0)", OUTSIDE, x -> x.years(1, -1, 0));
        add(all, "years(1, 0, 3)", OUTSIDE, x -> x.years(1, 0, 3));
        add(all, "years(1, 0, 15)", OUTSIDE, x -> x.years(1, 0, 15));
        add(all, "count(9)", OUTSIDE, x -> x.count(9));
        add(all, "count(-1)", OUTSIDE, x -> x.count(-1));
        return all;
    }

    /** Refused while there is no council; what names a councillor is UNKNOWN ahead of all. */
    private static List<Refused> withoutCouncil() {
        List<Refused> all = new ArrayList<>();
        add(all, "about(0, 0)", UNKNOWN, x -> x.about(0, 0));
        add(all, "about(0, 5)", UNKNOWN, x -> x.about(0, 5));
        add(all, "as(0, 0)", UNKNOWN, x -> x.as(0, 0));
        add(all, "as(0, 5)", UNKNOWN, x -> x.as(0, 5));
        add(all, "nose(0, 1)", UNKNOWN, x -> x.nose(0, 1));
        add(all, "nose(0, 10)", UNKNOWN, x -> x.nose(0, 10));
        add(all, "bribe(0, 1)", UNKNOWN, x -> x.bribe(0, 1));
        add(all, "bribe(0, 6)", UNKNOWN, x -> x.bribe(0, 6));
        add(all, "draught(0)", UNKNOWN, x -> x.draught(0));
        add(all, "draught(NONE)", STATE, x -> x.draught(NONE));
        add(all, "pepper(true)", STATE, x -> x.pepper(true));
        add(all, "pepper(false)", STATE, x -> x.pepper(false));
        add(all, "hour(0)", STATE, x -> x.hour(0));
        add(all, "hour(1)", OUTSIDE, x -> x.hour(1));
        add(all, "hour(31)", OUTSIDE, x -> x.hour(31));
        add(all, "king(0, 0)", UNKNOWN, x -> x.king(0, 0));
        add(all, "king(0, 2)", UNKNOWN, x -> x.king(0, 2));
        add(all, "king(NONE, 0)", STATE, x -> x.king(NONE, 0));
        add(all, "king(NONE, 1)", STATE, x -> x.king(NONE, 1));
        add(all, "holds(0, 0, 0)", STATE, x -> x.holds(0, 0, 0));
        add(all, "holds(5, 3, 1)", STATE, x -> x.holds(5, 3, 1));
        add(all, "window(0)", UNKNOWN, x -> x.window(0));
        add(all, "saying(0, 0)", STATE, x -> x.saying(0, 0));
        add(all, "saying(5, 2)", STATE, x -> x.saying(5, 2));
        add(all, "statutes(0, 0)", STATE, x -> x.statutes(0, 0));
        add(all, "statutes(63, 1)", STATE, x -> x.statutes(63, 1));
        add(all, "fits()", STATE, x -> x.fits());
        add(all, "sneezed(0, 0)", UNKNOWN, x -> x.sneezed(0, 0));
        add(all, "years(1, 0, 0)", STATE, x -> x.years(1, 0, 0));
        add(all, "years(60, MAX, 14)", STATE, x -> x.years(60, MAX, 14));
        add(all, "image()", STATE, x -> x.image());
        add(all, "restore()", STATE, x -> x.restore());
        return all;
    }

    /** Refused while the council is one of four. */
    private static List<Refused> withCouncil() {
        List<Refused> all = new ArrayList<>();
        add(all, "about(4, 5)", UNKNOWN, x -> x.about(4, 5));
        add(all, "about(0, 5)", OUTSIDE, x -> x.about(0, 5));
        add(all, "about(0, -1)", OUTSIDE, x -> x.about(0, -1));
        add(all, "as(4, 5)", UNKNOWN, x -> x.as(4, 5));
        add(all, "as(0, 5)", OUTSIDE, x -> x.as(0, 5));
        add(all, "as(0, NONE)", OUTSIDE, x -> x.as(0, NONE));
        add(all, "nose(4, 10)", UNKNOWN, x -> x.nose(4, 10));
        add(all, "nose(0, 10)", OUTSIDE, x -> x.nose(0, 10));
        add(all, "nose(0, -1)", OUTSIDE, x -> x.nose(0, -1));
        add(all, "bribe(4, 6)", UNKNOWN, x -> x.bribe(4, 6));
        add(all, "bribe(0, 6)", OUTSIDE, x -> x.bribe(0, 6));
        add(all, "bribe(0, -1)", OUTSIDE, x -> x.bribe(0, -1));
        add(all, "draught(4)", UNKNOWN, x -> x.draught(4));
        add(all, "hour(16)", OUTSIDE, x -> x.hour(16));
        add(all, "hour(17)", OUTSIDE, x -> x.hour(17));
        add(all, "hour of one of no tenths", OUTSIDE, x -> x.hour(2));
        add(all, "hour with one of no tenths", OUTSIDE, x -> x.hour(3));
        add(all, "king(4, 2)", UNKNOWN, x -> x.king(4, 2));
        add(all, "king(3, 2)", OUTSIDE, x -> x.king(3, 2));
        add(all, "window(4)", UNKNOWN, x -> x.window(4));
        add(all, "sneezed(4, 0)", UNKNOWN, x -> x.sneezed(4, 0));
        return all;
    }

    private static List<Refused> whenFull() {
        List<Refused> all = new ArrayList<>();
        add(all, "letter(1)", FULL, x -> x.letter(1));
        add(all, "letter(126)", FULL, x -> x.letter(126));
        add(all, "book(NONE)", FULL, x -> x.book(NONE));
        add(all, "book(0)", FULL, x -> x.book(0));
        add(all, "book(63)", FULL, x -> x.book(63));
        return all;
    }

    private static List<Refused> withoutImage() {
        List<Refused> all = new ArrayList<>();
        add(all, "restore()", STATE, x -> x.restore());
        return all;
    }

    private static void tellingChangesNothing() {
        sentence("what only tells changes nothing");
        SneezeKing x = midway(), y = midway();
        whole(x);
        for (int kind = 0; kind < 5; kind++) {
            x.as(3, kind);
        }
        same("all that tells, asked once more", whole(x), whole(y));
        due("restore()", x.restore(), y.restore());
        same("restore()", whole(x), whole(y));
    }

    private static void refusedRestoreKeepsAll() {
        sentence("restore: STATE, and it changes nothing");
        SneezeKing x = of("p50,p41,p32"), y = of("p50,p41,p32");
        for (SneezeKing one : new SneezeKing[] {x, y}) {
            one.hour(2);
            one.draught(1);
            one.pepper(true);
            one.nose(2, 9);
            one.book(2);
            tell(one, "c9");
        }
        due("restore() ahead of an image", x.restore(), STATE);
        same("restore() ahead of an image", whole(x), whole(y));
    }
}
