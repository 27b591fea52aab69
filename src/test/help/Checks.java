/** What the tests share: a count of wrong answers, each told with the sentence that it breaks. */
abstract class Checks {
    static final int NONE = -1, UNKNOWN = -101, OUTSIDE = -102, STATE = -103, FULL = -104;
    static final int MIN = Integer.MIN_VALUE, MAX = Integer.MAX_VALUE;

    private static int wrong = 0;
    private static String sentence = "";

    /** A call with one number left open. */
    interface Asked {
        long by(int number);
    }

    static void sentence(String words) {
        sentence = words;
    }

    static void due(String call, long got, long want) {
        if (got != want) {
            wrong++;
            System.out.println(sentence + ": " + call + " answered " + got + ", due is " + want);
        }
    }

    static void end() {
        System.out.println(wrong == 0 ? "every answer is as due" : wrong + " answers are wrong");
        if (wrong != 0) {
            System.exit(1);
        }
    }

    static void tell(SneezeKing x, String text) {
        for (int i = 0; i < text.length(); i++) {
            x.letter(text.charAt(i));
        }
    }

    static SneezeKing written(String text) {
        SneezeKing x = new SneezeKing();
        tell(x, text);
        return x;
    }

    static SneezeKing of(String text) {
        SneezeKing x = written(text);
        due("council() of " + text, x.council(), (text.length() + 1) / 4);
        return x;
    }

    /** All from least to most are taken; those beside them and far off are refused. */
    static void range(String call, int least, int most, int refusal, Asked asked) {
        for (int number = least; number <= most; number++) {
            long got = asked.by(number);
            due(call + " of " + number + " is refused (by " + got + ")", isRefusal(got) ? 1 : 0, 0);
        }
        for (int number : new int[] {least - 1, most + 1, MIN, MAX}) {
            due(call + " of " + number, asked.by(number), refusal);
        }
    }

    private static boolean isRefusal(long answer) {
        return answer == UNKNOWN || answer == OUTSIDE || answer == STATE || answer == FULL;
    }

    /** All that can be asked of an object (some hundred calls), for two objects to be held against each other. */
    static long[] whole(SneezeKing x) {
        long[] all = new long[200];
        int n = 0;
        for (int what = 0; what <= 8; what++) {
            all[n++] = x.count(what);
        }
        for (int councillor = 0; councillor < 5; councillor++) {
            for (int what = 0; what <= 4; what++) {
                all[n++] = x.about(councillor, what);
            }
            all[n++] = x.king(councillor, 0);
            all[n++] = x.window(councillor);
            for (int hour = 0; hour < 5; hour++) {
                all[n++] = x.sneezed(councillor, hour);
            }
            all[n++] = x.years(60, 241, 10 + councillor);
        }
        for (int law = 0; law < 6; law++) {
            all[n++] = x.holds(law, 3, 0);
            all[n++] = x.saying(law, 2);
        }
        all[n++] = x.king(NONE, 0);
        all[n++] = x.laws();
        all[n++] = x.statutes(63, 0);
        all[n++] = x.fits();
        all[n++] = x.years(60, 241, 1);
        all[n++] = x.fault();
        all[n++] = x.digest();
        return all;
    }

    static void same(String call, long[] got, long[] want) {
        int other = java.util.Arrays.mismatch(got, want);
        if (other >= 0) {
            due(call + ", the answer of number " + other + " behind it", got[other], want[other]);
        }
    }
}
