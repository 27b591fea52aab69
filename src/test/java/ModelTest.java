import java.math.BigInteger;
import java.util.ArrayList;
import java.util.Arrays;
import java.util.HashMap;
import java.util.List;
import java.util.Map;
import java.util.Random;
import java.util.TreeMap;

/**
 * Random runs of calls, each answer held against a model that goes through the
 * hours forward and through every set of councillors one by one.
 */
public final class ModelTest {
    private static final int NONE = -1, UNKNOWN = -101, OUTSIDE = -102, STATE = -103, FULL = -104;
    private static final int RUNS = 400, CALLS = 160, SHOWN = 20;

    private static int wrong = 0;

    public static void main(String[] args) {
        for (int run = 0; run < RUNS; run++) {
            play(run, new Random(4711L * run + 17));
        }
        System.out.println(wrong == 0 ? "all as the model has it" : wrong + " answers differ from the model");
        if (wrong != 0) {
            System.exit(1);
        }
    }

    private static void play(int run, Random random) {
        SneezeKing x = new SneezeKing();
        Model m = new Model();
        List<String> calls = new ArrayList<>();
        if (random.nextInt(10) > 0) {
            tell(x, m, randomCouncil(random), calls, run);
        }
        for (int i = 0; i < CALLS; i++) {
            if (random.nextInt(60) == 0) {
                tell(x, m, randomCouncil(random), calls, run);
            } else {
                call(x, m, random, calls, run);
            }
        }
    }

    private static String randomCouncil(Random random) {
        StringBuilder text = new StringBuilder();
        int seats = 3 + random.nextInt(3);
        boolean quiet = random.nextInt(3) == 0;
        for (int seat = 0; seat < seats; seat++) {
            text.append(seat == 0 ? "" : ",");
            text.append("psfdc".charAt(random.nextInt(5)));
            text.append(random.nextInt(quiet ? 3 : 10));
            text.append(random.nextInt(6));
        }
        return text.toString();
    }

    private static void tell(SneezeKing x, Model m, String text, List<String> calls, int run) {
        check(run, calls, "blank()", x.blank(), m.blank());
        for (char c : text.toCharArray()) {
            check(run, calls, "letter(" + (int) c + ")", x.letter(c), m.letter(c));
        }
        check(run, calls, "fault()", x.fault(), m.fault());
        check(run, calls, "council()", x.council(), m.council());
    }

    private static void check(int run, List<String> calls, String call, long got, long want) {
        calls.add(call);
        if (got != want) {
            wrong++;
            if (wrong <= SHOWN) {
                System.out.println("run " + run + ": " + call + " answered " + got + ", the model " + want
                        + ", behind " + calls.subList(Math.max(0, calls.size() - 40), calls.size()));
            }
        }
    }

    /** Mostly a number from low to high, now and then one beside them or far off. */
    private static int pick(Random r, int low, int high) {
        switch (r.nextInt(24)) {
            case 0: return low - 1;
            case 1: return high + 1;
            case 2: return new int[] {Integer.MIN_VALUE, Integer.MAX_VALUE, r.nextInt(), 64, -2}[r.nextInt(5)];
            default: return low + r.nextInt(high - low + 1);
        }
    }

    private static int letterLike(Model m, Random r) {
        String likely = "psfdc0123456789,";
        return r.nextInt(3) == 0 ? pick(r, 1, 126) : likely.charAt(r.nextInt(likely.length()));
    }

    private static void call(SneezeKing x, Model m, Random r, List<String> calls, int run) {
        int last = Math.max(2, m.seats() - 1);
        int c = pick(r, 0, last), a, b, d;
        switch (r.nextInt(32)) {
            case 0: a = letterLike(m, r); check(run, calls, "letter(" + a + ")", x.letter(a), m.letter(a)); break;
            case 1: check(run, calls, "fault()", x.fault(), m.fault()); break;
            case 2: check(run, calls, "council()", x.council(), m.council()); break;
            case 3: check(run, calls, "blank()", x.blank(), m.blank()); break;
            case 4: a = pick(r, 0, 4); check(run, calls, "about(" + c + ", " + a + ")", x.about(c, a), m.about(c, a)); break;
            case 5: a = pick(r, 0, 4); check(run, calls, "as(" + c + ", " + a + ")", x.as(c, a), m.as(c, a)); break;
            case 6: a = pick(r, 0, 9); check(run, calls, "nose(" + c + ", " + a + ")", x.nose(c, a), m.nose(c, a)); break;
            case 7: a = pick(r, 0, 5); check(run, calls, "bribe(" + c + ", " + a + ")", x.bribe(c, a), m.bribe(c, a)); break;
            case 8: a = pick(r, -1, last); check(run, calls, "draught(" + a + ")", x.draught(a), m.draught(a)); break;
            case 9: boolean is = r.nextBoolean(); check(run, calls, "pepper(" + is + ")", x.pepper(is), m.pepper(is)); break;
            case 10: case 11: case 12: case 13:
                a = r.nextInt(3) == 0 ? 1 << r.nextInt(5) : pick(r, 0, (1 << m.seats()) - 1);
                check(run, calls, "hour(" + a + ")", x.hour(a), m.hour(a)); break;
            case 14: check(run, calls, "laws()", x.laws(), m.laws); break;
            case 15: case 16: a = pick(r, -1, last); b = pick(r, 0, 1); check(run, calls, "king(" + a + ", " + b + ")", x.king(a, b), m.king(a, b)); break;
            case 17: case 18: a = pick(r, 0, 5); b = pick(r, 0, 3); d = pick(r, 0, 1);
                check(run, calls, "holds(" + a + ", " + b + ", " + d + ")", x.holds(a, b, d), m.holds(a, b, d)); break;
            case 19: check(run, calls, "window(" + c + ")", x.window(c), m.window(c)); break;
            case 20: a = pick(r, 0, 5); b = pick(r, 0, 2); check(run, calls, "saying(" + a + ", " + b + ")", x.saying(a, b), m.saying(a, b)); break;
            case 21: a = pick(r, 0, 63); b = pick(r, 0, 1); check(run, calls, "statutes(" + a + ", " + b + ")", x.statutes(a, b), m.statutes(a, b)); break;
            case 22: case 23: a = r.nextInt(3) == 0 ? m.laws | 1 << r.nextInt(6) : r.nextInt(2) == 0 ? -1 : pick(r, -1, 63);
                check(run, calls, "book(" + a + ")", x.book(a), m.book(a)); break;
            case 24: if (r.nextInt(3) == 0) { check(run, calls, "forget()", x.forget(), m.forget()); } break;
            case 25: check(run, calls, "fits()", x.fits(), m.fits()); break;
            case 26: a = pick(r, 0, Math.max(0, m.told.size() - 1)); check(run, calls, "sneezed(" + c + ", " + a + ")", x.sneezed(c, a), m.sneezed(c, a)); break;
            case 27: a = pick(r, 1, 60); b = r.nextInt(4) == 0 ? pick(r, 0, 5) : r.nextInt() & 0x7fffffff;
                d = r.nextBoolean() ? pick(r, 0, 2) : pick(r, 10, 14);
                check(run, calls, "years(" + a + ", " + b + ", " + d + ")", x.years(a, b, d), m.years(a, b, d)); break;
            case 28: check(run, calls, "image()", x.image(), m.image()); break;
            case 29: check(run, calls, "restore()", x.restore(), m.restore()); break;
            case 30: a = pick(r, 0, 8); check(run, calls, "count(" + a + ")", x.count(a), m.count(a)); break;
            default: if (r.nextInt(3) == 0) { check(run, calls, "digest()", x.digest(), m.digest()); } break;
        }
    }

    private static final class Model {
        private String page = "";
        private List<Character> kinds = new ArrayList<>();
        private List<Integer> noses = new ArrayList<>();
        private List<Integer> says = new ArrayList<>();
        private List<Integer> reigns = new ArrayList<>();
        private List<Integer> told = new ArrayList<>();
        private int wind = NONE;
        private boolean peppered;
        private int laws;
        private int number;
        private int reads;
        private Model kept;

        int seats() {
            return kinds.size();
        }

        private boolean known(int c) {
            return 0 <= c && c < seats();
        }

        int letter(int code) {
            if (code < 1 || code > 126) {
                return OUTSIDE;
            }
            if (page.length() == 20) {
                return FULL;
            }
            page += (char) code;
            return page.length();
        }

        int blank() {
            int had = page.length();
            page = "";
            return had;
        }

        int fault() {
            int good = 0;
            while (good < page.length() && starts(page.substring(0, good + 1))) {
                good++;
            }
            return good;
        }

        private static boolean starts(String text) {
            String whole = "p00,p00,p00,p00,p00";
            return text.length() <= whole.length() && (text + whole.substring(text.length())).matches("[psfdc][0-9][0-5](,[psfdc][0-9][0-5]){4}");
        }

        int council() {
            if (!page.matches("[psfdc][0-9][0-5](,[psfdc][0-9][0-5]){2,4}")) {
                return STATE;
            }
            kinds.clear();
            noses.clear();
            says.clear();
            reigns.clear();
            told.clear();
            for (String one : page.split(",")) {
                kinds.add(one.charAt(0));
                noses.add(one.charAt(1) - '0');
                says.add(one.charAt(2) - '0');
                reigns.add(0);
            }
            wind = NONE;
            peppered = false;
            laws = 0;
            number = 0;
            kept = null;
            page = "";
            reads++;
            return seats();
        }

        int about(int c, int what) {
            if (!known(c)) {
                return UNKNOWN;
            }
            if (what < 0 || what > 4) {
                return OUTSIDE;
            }
            return new int[] {"psfdc".indexOf(kinds.get(c)), noses.get(c), says.get(c), tenths(c, number, laws, wind), reigns.get(c)}[what];
        }

        private int tenths(int c, int atHour, int held, int blowing) {
            char kind = kinds.get(c);
            if ((held & 8) == 8 && kind != 'c') {
                return 0;
            }
            int all = noses.get(c) + (blowing == c ? 2 : 0);
            all += (kind == 'f' || kind == 'c') && atHour % 2 == 0 ? 1 : 0;
            all += kind == 'c' && peppered ? 3 : 0;
            return all > 9 ? 9 : all;
        }

        int as(int c, int kind) {
            if (!known(c)) {
                return UNKNOWN;
            }
            if (kind < 0 || kind > 4) {
                return OUTSIDE;
            }
            String all = Map.of('p', "0", 's', "01", 'f', "02", 'd', "03", 'c', "024").get(kinds.get(c));
            return all.contains("" + kind) ? c : NONE;
        }

        int nose(int c, int v) {
            return !known(c) ? UNKNOWN : v < 0 || v > 9 ? OUTSIDE : noses.set(c, v);
        }

        int bribe(int c, int law) {
            return !known(c) ? UNKNOWN : law < 0 || law > 5 ? OUTSIDE : says.set(c, law);
        }

        int draught(int c) {
            if (c != NONE && !known(c)) {
                return UNKNOWN;
            }
            if (seats() == 0) {
                return STATE;
            }
            int was = wind;
            wind = c;
            return was;
        }

        int pepper(boolean is) {
            if (seats() == 0) {
                return STATE;
            }
            int was = peppered ? 1 : 0;
            peppered = is;
            return was;
        }

        int hour(int set) {
            for (int bit = 0; bit < 32; bit++) {
                if ((set >>> bit & 1) == 1 && (!known(bit) || tenths(bit, number, laws, wind) == 0)) {
                    return OUTSIDE;
                }
            }
            if (seats() == 0) {
                return STATE;
            }
            int king = kingOf(set);
            if (king != NONE) {
                reigns.set(king, reigns.get(king) + 1);
                laws = saidBy(king, laws);
            }
            number++;
            return king;
        }

        private int kingOf(int set) {
            List<Integer> sneezers = new ArrayList<>(), deans = new ArrayList<>();
            for (int c = 0; c < seats(); c++) {
                if ((set >> c & 1) == 1) {
                    sneezers.add(c);
                    if (kinds.get(c) == 'd') {
                        deans.add(c);
                    }
                }
            }
            if (sneezers.size() == 1) {
                int one = sneezers.get(0);
                return kinds.get(one) == 's' ? (one + 1) % seats() : one;
            }
            return deans.size() == 1 ? deans.get(0) : NONE;
        }

        private int saidBy(int king, int held) {
            return king == NONE ? held : said(says.get(king), held);
        }

        private static int said(int law, int held) {
            boolean[] on = new boolean[6];
            for (int i = 0; i < 6; i++) {
                on[i] = (held >> i & 1) == 1;
            }
            if (law == 2) {
                on[2] = on[2] || on[0] || on[1];
            } else {
                on[law] = true;
            }
            if (law == 1) {
                on[0] = false;
            }
            if (law == 5) {
                on[3] = false;
            }
            if (law == 4) {
                Arrays.fill(on, false);
                on[4] = true;
            }
            int now = 0;
            for (int i = 0; i < 6; i++) {
                now += on[i] ? 1 << i : 0;
            }
            return now;
        }

        private long odds(int set, int atHour, int held, int blowing) {
            long product = 1;
            for (int c = 0; c < seats(); c++) {
                int t = tenths(c, atHour, held, blowing);
                product *= (set >> c & 1) == 1 ? t : 10 - t;
            }
            return product;
        }

        private BigInteger kingOdds(int king, int blowing) {
            long all = 0;
            for (int set = 0; set < 1 << seats(); set++) {
                all += kingOf(set) == king ? odds(set, number, laws, blowing) : 0;
            }
            return BigInteger.valueOf(all);
        }

        private static long term(BigInteger above, BigInteger below, int part) {
            BigInteger common = above.gcd(below);
            return (part == 0 ? above : below).divide(common).longValueExact();
        }

        long king(int c, int part) {
            if (c != NONE && !known(c)) {
                return UNKNOWN;
            }
            if (part != 0 && part != 1) {
                return OUTSIDE;
            }
            return seats() == 0 ? STATE : term(kingOdds(c, wind), BigInteger.TEN.pow(seats()), part);
        }

        private BigInteger holdsOdds(int law, int hours, int from) {
            Map<Integer, BigInteger> now = new TreeMap<>();
            now.put(from, BigInteger.ONE);
            for (int h = 0; h < hours; h++) {
                Map<Integer, BigInteger> then = new TreeMap<>();
                for (int held : now.keySet()) {
                    for (int set = 0; set < 1 << seats(); set++) {
                        BigInteger share = now.get(held).multiply(BigInteger.valueOf(odds(set, number + h, held, wind)));
                        then.merge(saidBy(kingOf(set), held), share, BigInteger::add);
                    }
                }
                now = then;
            }
            BigInteger all = BigInteger.ZERO;
            for (int held : now.keySet()) {
                all = (held >> law & 1) == 1 ? all.add(now.get(held)) : all;
            }
            return all;
        }

        long holds(int law, int hours, int part) {
            if (law < 0 || law > 5 || hours < 0 || hours > 3 || part < 0 || part > 1) {
                return OUTSIDE;
            }
            return seats() == 0 ? STATE : term(holdsOdds(law, hours, laws), BigInteger.TEN.pow(seats() * hours), part);
        }

        int window(int c) {
            if (!known(c)) {
                return UNKNOWN;
            }
            int best = NONE;
            for (int place = 0; place < seats(); place++) {
                best = kingOdds(c, place).compareTo(kingOdds(c, best)) > 0 ? place : best;
            }
            return best;
        }

        int saying(int law, int hours) {
            if (law < 0 || law > 5 || hours < 0 || hours > 2) {
                return OUTSIDE;
            }
            if (seats() == 0) {
                return STATE;
            }
            int best = 5;
            for (int one = 4; one >= 0; one--) {
                best = holdsOdds(law, hours, said(one, laws)).compareTo(holdsOdds(law, hours, said(best, laws))) >= 0 ? one : best;
            }
            return best;
        }

        /** The rows of laws, shortest first and least first, each told by the sets it leads to. */
        int statutes(int set, int what) {
            if (set < 0 || set > 63 || what < 0 || what > 1) {
                return OUTSIDE;
            }
            if (seats() == 0) {
                return STATE;
            }
            Map<Integer, String> rows = new HashMap<>();
            rows.put(laws, "");
            List<Integer> queue = new ArrayList<>(List.of(laws));
            for (int i = 0; i < queue.size(); i++) {
                for (int law = 0; law < 6; law++) {
                    int next = said(law, queue.get(i));
                    if (!rows.containsKey(next)) {
                        rows.put(next, rows.get(queue.get(i)) + law);
                        queue.add(next);
                    }
                }
            }
            String row = rows.get(set);
            if (row == null || row.length() > 6) {
                return NONE;
            }
            return what == 0 ? row.length() : row.isEmpty() ? NONE : row.charAt(0) - '0';
        }

        int book(int set) {
            if (set < -1 || set > 63) {
                return OUTSIDE;
            }
            if (told.size() == 5) {
                return FULL;
            }
            told.add(set);
            return told.size();
        }

        int forget() {
            int had = told.size();
            told.clear();
            return had;
        }

        private long ways(int h, int held, int sneezer, int place) {
            if (h == told.size()) {
                return 1;
            }
            int[] waysTo = new int[64];
            for (int set = 0; set < 1 << seats(); set++) {
                boolean can = h != place || (set >> sneezer & 1) == 1;
                for (int c = 0; c < seats(); c++) {
                    can &= (set >> c & 1) == 0 || tenths(c, number + h, held, wind) > 0;
                }
                int then = saidBy(kingOf(set), held);
                waysTo[then] += can && (told.get(h) == NONE || told.get(h) == then) ? 1 : 0;
            }
            long all = 0;
            for (int then = 0; then < 64; then++) {
                all += waysTo[then] == 0 ? 0 : waysTo[then] * ways(h + 1, then, sneezer, place);
            }
            return all;
        }

        long fits() {
            return seats() == 0 ? STATE : ways(0, laws, 0, NONE);
        }

        long sneezed(int c, int h) {
            return !known(c) || h < 0 || h >= told.size() ? UNKNOWN : ways(0, laws, c, h);
        }

        int years(int hours, int seed, int what) {
            boolean asks = what == 0 || what == 1 || what == 2 || what >= 10 && what <= 14;
            if (hours < 1 || hours > 60 || seed < 0 || !asks) {
                return OUTSIDE;
            }
            if (seats() == 0) {
                return STATE;
            }
            BigInteger now = BigInteger.valueOf(seed);
            int held = laws;
            int[] ruled = new int[5];
            for (int h = 0; h < hours; h++) {
                int set = 0;
                for (int c = 0; c < seats(); c++) {
                    now = now.multiply(BigInteger.valueOf(1103515245)).add(BigInteger.valueOf(12345)).mod(BigInteger.TWO.pow(31));
                    int draw = now.divide(BigInteger.valueOf(65536)).mod(BigInteger.TEN).intValue();
                    set |= draw < tenths(c, number + h, held, wind) ? 1 << c : 0;
                }
                int king = kingOf(set);
                held = saidBy(king, held);
                if (king != NONE) {
                    ruled[king]++;
                }
            }
            return what == 0 ? Arrays.stream(ruled).sum() : what == 1 ? held : what == 2 ? now.intValueExact() : ruled[what - 10];
        }

        int image() {
            if (seats() == 0) {
                return STATE;
            }
            kept = new Model();
            copy(this, kept);
            return number;
        }

        int restore() {
            if (kept == null) {
                return STATE;
            }
            copy(kept, this);
            return number;
        }

        private static void copy(Model from, Model to) {
            to.noses = new ArrayList<>(from.noses);
            to.says = new ArrayList<>(from.says);
            to.reigns = new ArrayList<>(from.reigns);
            to.told = new ArrayList<>(from.told);
            to.wind = from.wind;
            to.peppered = from.peppered;
            to.laws = from.laws;
            to.number = from.number;
        }

        int count(int what) {
            if (what < 0 || what > 8) {
                return OUTSIDE;
            }
            int all = reigns.stream().mapToInt(i -> i).sum();
            return new int[] {seats(), wind, peppered ? 1 : 0, Integer.bitCount(laws), number, all, told.size(), page.length(), reads}[what];
        }

        long digest() {
            List<Long> all = new ArrayList<>();
            for (int c = 0; c < seats(); c++) {
                for (int what = 0; what < 5; what++) {
                    all.add((long) about(c, what));
                }
                all.addAll(List.of(king(c, 0), king(c, 1), (long) window(c)));
            }
            all.add((long) laws);
            if (seats() > 0) {
                for (int law = 0; law < 6; law++) {
                    all.addAll(List.of(holds(law, 2, 0), holds(law, 2, 1), (long) saying(law, 1)));
                }
                all.add(fits());
            }
            page.chars().forEach(code -> all.add((long) code));
            for (int what = 0; what < 9; what++) {
                all.add((long) count(what));
            }
            long h = 809;
            for (long one : all) {
                h = 31 * h + one;
            }
            return h;
        }
    }
}
