import java.io.IOException;
import java.nio.file.Files;
import java.nio.file.Path;
import java.util.ArrayList;
import java.util.List;
import java.util.TreeSet;
import java.util.regex.Matcher;
import java.util.regex.Pattern;

/** The calls that README.md shows answer what it says, and its tables name each call and each refusal. */
public final class ReadmeTest extends Checks {
    private static final Pattern SHOWN = Pattern.compile("(?m)^(x\\.\\w+\\(.*?\\));\\s+// (-?\\w+):");
    private static final Pattern LISTED = Pattern.compile("(?m)^\\| `(\\w+)\\(");
    private static final Pattern REFUSAL = Pattern.compile("(?m)^\\| `([A-Z]+)` \\| (-?\\d+) \\|");

    private static final List<String> asked = new ArrayList<>();

    public static void main(String[] args) throws IOException {
        String page = Files.readString(Path.of("README.md"));
        sentence("what README.md shows");
        theRunShown();
        alike("the calls that README.md shows", rows(SHOWN, page), asked);
        alike("the calls that README.md lists", new TreeSet<>(rows(LISTED, page)), face());
        alike("the refusals that README.md lists", rows(REFUSAL, page),
                List.of("UNKNOWN -101", "OUTSIDE -102", "STATE -103", "FULL -104"));
        end();
    }

    private static void theRunShown() {
        SneezeKing x = written("s40,f31,d22,c53");
        ask("x.fault()", x.fault(), "15");
        ask("x.council()", x.council(), "4");
        ask("x.count(7)", x.count(7), "0");
        ask("x.about(1, 3)", x.about(1, 3), "4");
        ask("x.as(3, 2)", x.as(3, 2), "3");
        ask("x.as(0, 2)", x.as(0, 2), "NONE");
        ask("x.king(1, 0)", x.king(1, 0), "96");
        ask("x.king(1, 1)", x.king(1, 1), "625");
        ask("x.window(1)", x.window(1), "0");
        ask("x.saying(2, 1)", x.saying(2, 1), "0");
        ask("x.statutes(6, 0)", x.statutes(6, 0), "2");
        ask("x.statutes(6, 1)", x.statutes(6, 1), "1");
        ask("x.hour(2)", x.hour(2), "1");
        ask("x.laws()", x.laws(), "2");
        ask("x.hour(1)", x.hour(1), "1");
        ask("x.hour(3)", x.hour(3), "NONE");
        ask("x.book(-1)", x.book(-1), "1");
        ask("x.fits()", x.fits(), "16");
        ask("x.years(20, 241, 0)", x.years(20, 241, 0), "6");
        ask("x.image()", x.image(), "3");
        ask("x.nose(4, 1)", x.nose(4, 1), "UNKNOWN");
        ask("x.nose(3, 10)", x.nose(3, 10), "OUTSIDE");
    }

    private static void ask(String call, long got, String want) {
        asked.add(call + " " + want);
        due(call, got, number(want));
    }

    private static long number(String want) {
        switch (want) {
            case "NONE": return NONE;
            case "UNKNOWN": return UNKNOWN;
            case "OUTSIDE": return OUTSIDE;
            default: return Long.parseLong(want);
        }
    }

    private static TreeSet<String> face() {
        TreeSet<String> names = new TreeSet<>();
        for (java.lang.reflect.Method method : SneezeKing.class.getDeclaredMethods()) {
            if (java.lang.reflect.Modifier.isPublic(method.getModifiers())) {
                names.add(method.getName());
            }
        }
        return names;
    }

    private static List<String> rows(Pattern pattern, String page) {
        List<String> all = new ArrayList<>();
        for (Matcher m = pattern.matcher(page); m.find();) {
            all.add(m.groupCount() == 1 ? m.group(1) : m.group(1) + " " + m.group(2));
        }
        return all;
    }

    private static void alike(String what, Object got, Object want) {
        due(what + ": " + got + ", whether they are " + want, got.equals(want) ? 1 : 0, 1);
    }
}
