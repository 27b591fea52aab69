/** An image: none yet, the latest, what it keeps and what it does not, and a council read since. */
public final class ImageTest extends Checks {
    private static final String TEXT = "s40,f31,d22,c53";

    public static void main(String[] args) {
        aheadOfAnImage();
        imageOfTheFirstHour();
        theLatest();
        keptWhole();
        oneByOne();
        restoredAgain();
        emptyAndFullBook();
        pageStays();
        readSince();
        notReadSince();
        end();
    }

    private static void aheadOfAnImage() {
        sentence("25 restore: STATE: none was kept");
        due("restore() of a new object", new SneezeKing().restore(), STATE);
        due("restore() of a council", of(TEXT).restore(), STATE);
        SneezeKing x = new SneezeKing();
        due("image() without a council", x.image(), STATE);
        due("restore() behind an image that was refused", x.restore(), STATE);
        tell(x, TEXT);
        x.council();
        due("restore() behind it, with a council", x.restore(), STATE);
        x.hour(0);
        due("restore() an hour later", x.restore(), STATE);
        due("image()", x.image(), 1);
        due("restore()", x.restore(), 1);
    }

    private static void imageOfTheFirstHour() {
        sentence("24 image: the hour");
        SneezeKing x = of(TEXT), y = of(TEXT);
        due("image() in hour 0", x.image(), 0);
        for (int i = 0; i < 5; i++) {
            x.hour(2);
        }
        due("restore() to hour 0", x.restore(), 0);
        same("restore() to hour 0", whole(x), whole(y));
    }

    private static void theLatest() {
        sentence("24 image: one; the latest");
        SneezeKing x = of(TEXT);
        for (int hour = 0; hour < 4; hour++) {
            due("image()", x.image(), hour);
            x.hour(0);
            due("restore()", x.restore(), hour);
            x.hour(0);
        }
        x.image();
        x.hour(0);
        x.restore();
        due("restore() of the latest", x.restore(), 4);
    }

    private static SneezeKing moved() {
        SneezeKing x = of(TEXT);
        x.hour(2);
        x.hour(1);
        x.hour(8);
        x.draught(2);
        x.pepper(true);
        x.nose(0, 9);
        x.nose(3, 0);
        x.bribe(1, 4);
        x.book(NONE);
        x.book(10);
        return x;
    }

    private static void keptWhole() {
        sentence("an image keeps laws said, noses, draught, pepper, laws, the hour, how often each was king, the book");
        SneezeKing x = moved(), y = moved();
        due("image()", x.image(), 3);
        x.bribe(0, 2);
        x.bribe(1, 2);
        x.bribe(3, 0);
        x.nose(0, 1);
        x.nose(1, 1);
        x.nose(3, 9);
        x.draught(NONE);
        x.pepper(false);
        x.hour(8);
        x.hour(8);
        x.hour(0);
        x.forget();
        x.book(1);
        x.book(2);
        x.book(3);
        due("restore()", x.restore(), 3);
        same("restore()", whole(x), whole(y));
    }

    /** Each thing that is kept, changed alone. */
    private static void oneByOne() {
        sentence("an image keeps each of these");
        for (int one = 0; one < 8; one++) {
            SneezeKing x = moved(), y = moved();
            x.image();
            switch (one) {
                case 0: x.bribe(3, 1); break;
                case 1: x.nose(2, 9); break;
                case 2: x.draught(NONE); break;
                case 3: x.pepper(false); break;
                case 4: x.hour(0); break;
                case 5: x.hour(8); break;
                case 6: x.forget(); break;
                default: x.book(63); break;
            }
            due("whether change " + one + " is one", java.util.Arrays.equals(whole(x), whole(y)) ? 1 : 0, 0);
            due("restore() behind change " + one, x.restore(), 3);
            same("restore() behind change " + one, whole(x), whole(y));
        }
    }

    private static void restoredAgain() {
        sentence("it goes on from the image, as often as it is asked");
        SneezeKing x = moved(), y = moved();
        x.image();
        for (int i = 0; i < 3; i++) {
            x.hour(8);
            x.nose(1, i);
            x.bribe(2, i);
            x.book(i);
            x.forget();
            x.book(i);
            due("restore() of number " + i, x.restore(), 3);
        }
        same("restore() thrice", whole(x), whole(y));
        x.restore();
        x.hour(0);
        y.hour(0);
        same("restore() and an hour", whole(x), whole(y));
    }

    private static void emptyAndFullBook() {
        sentence("an image keeps the book, an empty one and a full one");
        SneezeKing x = of(TEXT);
        x.image();
        for (int i = 0; i < 5; i++) {
            x.book(NONE);
        }
        x.restore();
        due("count(6) of an empty one", x.count(6), 0);
        due("book(8) behind an empty one", x.book(8), 1);
        due("fits() behind an empty one", x.fits(), 1);
        for (int i = 1; i < 5; i++) {
            x.book(8);
        }
        long ways = x.fits();
        due("whether all fits", ways > 0 ? 1 : 0, 1);
        x.image();
        x.forget();
        x.book(0);
        x.restore();
        due("count(6) of a full one", x.count(6), 5);
        due("book(0) behind a full one", x.book(0), FULL);
        due("fits() behind a full one", x.fits(), ways);
        due("sneezed(3, 4) behind a full one", x.sneezed(3, 4) > 0 ? 1 : 0, 1);
    }

    private static void pageStays() {
        sentence("an image keeps no letters of the page");
        SneezeKing x = of(TEXT);
        tell(x, "p5");
        x.image();
        tell(x, "0,");
        due("restore()", x.restore(), 0);
        due("count(7) with more letters", x.count(7), 4);
        due("fault()", x.fault(), 4);
        x.blank();
        x.restore();
        due("count(7) of an empty page", x.count(7), 0);
        due("count(8)", x.count(8), 1);
    }

    private static void readSince() {
        sentence("25 restore: STATE: a council was read since (the same text, too)");
        for (String text : new String[] {TEXT, "p00,p00,p00", "p00,p00,p00,p00,p00"}) {
            SneezeKing x = of(TEXT);
            x.hour(2);
            x.image();
            tell(x, text);
            x.council();
            due("restore() behind " + text, x.restore(), STATE);
            due("count(4) behind " + text, x.count(4), 0);
            x.hour(0);
            x.hour(0);
            due("restore() later", x.restore(), STATE);
            due("image()", x.image(), 2);
            x.hour(0);
            due("restore() of an image kept since", x.restore(), 2);
            due("count(8)", x.count(8), 2);
        }
    }

    private static void notReadSince() {
        sentence("25 restore: a council that was refused is none read since");
        SneezeKing x = of(TEXT);
        x.hour(2);
        x.image();
        due("council() of an empty page", x.council(), STATE);
        due("restore()", x.restore(), 1);
        tell(x, "p00,p00,p0x");
        due("council() of no council", x.council(), STATE);
        x.hour(0);
        due("restore()", x.restore(), 1);
        x.blank();
        tell(x, TEXT);
        due("restore() ahead of council()", x.restore(), 1);
        due("council()", x.council(), 4);
        due("restore() behind council()", x.restore(), STATE);
    }
}
