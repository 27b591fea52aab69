import java.util.Arrays;

/** King by a sneeze: a council, its laws, and what the hours that come would bring. */
public final class SneezeKing {
    public static final int NONE = -1, UNKNOWN = -101, OUTSIDE = -102, STATE = -103, FULL = -104;

    private static final int STIFLER = 1, FEVERED = 2, DEAN = 3, CAT = 4, KINDS = 5;
    private static final int MOST_SEATS = 5, FEWEST_SEATS = 3, SEAT_SETS = 32;
    private static final int LAW_COUNT = 6, LAW_SETS = 64, SNEEZING_BAN = 3;
    private static final int MOST_NOSE = 9, MOST_TENTHS = 9, ALL_TENTHS = 10;
    private static final int MOST_TOLD = 5, MOST_SAID = 6;
    private static final int MOST_HOURS_AHEAD = 3, MOST_HOURS_SAID = 2, MOST_HOURS_LIVED = 60;

    private final Page page;
    private final Council now;
    private final Council kept;
    private final Prospect prospect;
    private final Years lived;
    private boolean hasImage;
    private int councilsRead;

    public SneezeKing() {
        Council council = new Council();
        page = new Page();
        now = council;
        kept = new Council();
        prospect = new Prospect(council);
        lived = new Years(council);
    }

    // ---- the council

    public int letter(int code) {
        if (code < 1 || code > 126) {
            return OUTSIDE;
        }
        return page.add(code) ? page.size() : FULL;
    }

    public int blank() {
        return page.empty();
    }

    public int fault() {
        return page.firstWrong();
    }

    public int council() {
        int seats = page.councilSeats();
        if (seats == 0) {
            return STATE;
        }
        now.readFrom(page, seats);
        page.empty();
        hasImage = false;
        councilsRead++;
        return seats;
    }

    public int about(int councillor, int what) {
        if (!now.seated(councillor)) {
            return UNKNOWN;
        }
        switch (what) {
            case 0: return now.kindOf(councillor);
            case 1: return now.noseOf(councillor);
            case 2: return now.sayingOf(councillor);
            case 3: return now.tenthsNow(councillor);
            case 4: return now.reignsOf(councillor);
            default: return OUTSIDE;
        }
    }

    public int as(int councillor, int kind) {
        if (!now.seated(councillor)) {
            return UNKNOWN;
        }
        if (kind < 0 || kind >= KINDS) {
            return OUTSIDE;
        }
        return now.isKind(councillor, kind) ? councillor : NONE;
    }

    public int nose(int councillor, int v) {
        if (!now.seated(councillor)) {
            return UNKNOWN;
        }
        if (v < 0 || v > MOST_NOSE) {
            return OUTSIDE;
        }
        return now.changeNose(councillor, v);
    }

    public int bribe(int councillor, int law) {
        if (!now.seated(councillor)) {
            return UNKNOWN;
        }
        if (!isLaw(law)) {
            return OUTSIDE;
        }
        return now.changeSaying(councillor, law);
    }

    public int draught(int councillor) {
        if (councillor != NONE && !now.seated(councillor)) {
            return UNKNOWN;
        }
        if (now.seats() == 0) {
            return STATE;
        }
        return now.moveDraught(councillor);
    }

    public int pepper(boolean is) {
        if (now.seats() == 0) {
            return STATE;
        }
        return now.changePepper(is) ? 1 : 0;
    }

    public int hour(int set) {
        if (!now.canSneeze(set)) {
            return OUTSIDE;
        }
        if (now.seats() == 0) {
            return STATE;
        }
        return now.passHour(set);
    }

    public int laws() {
        return now.held();
    }

    // ---- what would be

    public long king(int councillor, int part) {
        if (councillor != NONE && !now.seated(councillor)) {
            return UNKNOWN;
        }
        if (part < 0 || part > 1) {
            return OUTSIDE;
        }
        if (now.seats() == 0) {
            return STATE;
        }
        long likely = prospect.kingWeight(councillor, now.draughtAt());
        return lowestTerm(likely, tenTo(now.seats()), part);
    }

    public long holds(int law, int hours, int part) {
        if (!isLaw(law) || hours < 0 || hours > MOST_HOURS_AHEAD || part < 0 || part > 1) {
            return OUTSIDE;
        }
        if (now.seats() == 0) {
            return STATE;
        }
        prospect.lookForLaw(law, hours);
        return lowestTerm(prospect.worthFrom(now.held()), tenTo(now.seats() * hours), part);
    }

    public int window(int councillor) {
        if (!now.seated(councillor)) {
            return UNKNOWN;
        }
        int best = NONE;
        long likeliest = prospect.kingWeight(councillor, NONE);
        for (int place = 0; place < now.seats(); place++) {
            long likely = prospect.kingWeight(councillor, place);
            if (likely > likeliest) {
                best = place;
                likeliest = likely;
            }
        }
        return best;
    }

    public int saying(int law, int hours) {
        if (!isLaw(law) || hours < 0 || hours > MOST_HOURS_SAID) {
            return OUTSIDE;
        }
        if (now.seats() == 0) {
            return STATE;
        }
        prospect.lookForLaw(law, hours);
        int best = 0;
        long likeliest = prospect.worthFrom(Statutes.said(now.held(), 0));
        for (int said = 1; said < LAW_COUNT; said++) {
            long likely = prospect.worthFrom(Statutes.said(now.held(), said));
            if (likely > likeliest) {
                best = said;
                likeliest = likely;
            }
        }
        return best;
    }

    public int statutes(int set, int what) {
        if (!isLawSet(set) || what < 0 || what > 1) {
            return OUTSIDE;
        }
        if (now.seats() == 0) {
            return STATE;
        }
        int fewest = Statutes.fewest(now.held(), set, MOST_SAID);
        return what == 0 ? fewest : Statutes.firstSaid(now.held(), set, fewest);
    }

    // ---- a book

    public int book(int set) {
        if (set != NONE && !isLawSet(set)) {
            return OUTSIDE;
        }
        return now.tell(set) ? now.toldHours() : FULL;
    }

    public int forget() {
        return now.forgetTold();
    }

    public long fits() {
        if (now.seats() == 0) {
            return STATE;
        }
        prospect.lookForBook(NONE, NONE);
        return prospect.worthFrom(now.held());
    }

    public long sneezed(int councillor, int hour) {
        if (!now.seated(councillor) || hour < 0 || hour >= now.toldHours()) {
            return UNKNOWN;
        }
        prospect.lookForBook(councillor, hour);
        return prospect.worthFrom(now.held());
    }

    public int years(int hours, int seed, int what) {
        if (hours < 1 || hours > MOST_HOURS_LIVED || seed < 0 || !Years.tells(what)) {
            return OUTSIDE;
        }
        if (now.seats() == 0) {
            return STATE;
        }
        lived.live(hours, seed);
        return lived.answer(what);
    }

    // ---- what is told of all

    public int image() {
        if (now.seats() == 0) {
            return STATE;
        }
        kept.takeOver(now);
        hasImage = true;
        return now.hourNumber();
    }

    public int restore() {
        if (!hasImage) {
            return STATE;
        }
        now.takeOver(kept);
        return now.hourNumber();
    }

    public int count(int what) {
        switch (what) {
            case 0: return now.seats();
            case 1: return now.draughtAt();
            case 2: return now.peppered() ? 1 : 0;
            case 3: return Integer.bitCount(now.held());
            case 4: return now.hourNumber();
            case 5: return now.reignsOfAll();
            case 6: return now.toldHours();
            case 7: return page.size();
            case 8: return councilsRead;
            default: return OUTSIDE;
        }
    }

    public long digest() {
        long h = 809;
        for (int councillor = 0; councillor < now.seats(); councillor++) {
            for (int what = 0; what <= 4; what++) {
                h = 31 * h + about(councillor, what);
            }
            h = 31 * h + king(councillor, 0);
            h = 31 * h + king(councillor, 1);
            h = 31 * h + window(councillor);
        }
        h = 31 * h + laws();
        if (now.seats() > 0) {
            for (int law = 0; law < LAW_COUNT; law++) {
                h = 31 * h + holds(law, 2, 0);
                h = 31 * h + holds(law, 2, 1);
                h = 31 * h + saying(law, 1);
            }
            h = 31 * h + fits();
        }
        for (int place = 0; place < page.size(); place++) {
            h = 31 * h + page.codeAt(place);
        }
        for (int what = 0; what <= 8; what++) {
            h = 31 * h + count(what);
        }
        return h;
    }

    private static boolean isLaw(int law) {
        return law >= 0 && law < LAW_COUNT;
    }

    private static boolean isLawSet(int set) {
        return set >= 0 && set < LAW_SETS;
    }

    private static boolean isIn(int set, int member) {
        return (set >> member & 1) != 0;
    }

    private static int at(int[] row, int place) {
        return place >= 0 && place < row.length ? row[place] : 0;
    }

    private static long at(long[] row, int place) {
        return place >= 0 && place < row.length ? row[place] : 0;
    }

    private static int exchange(int[] row, int place, int value) {
        if (place < 0 || place >= row.length) {
            return 0;
        }
        int was = row[place];
        row[place] = value;
        return was;
    }

    private static void copy(int[] from, int[] to) {
        System.arraycopy(from, 0, to, 0, Math.min(from.length, to.length));
    }

    private static int sum(int[] row, int length) {
        int all = 0;
        for (int place = 0; place < length; place++) {
            all += at(row, place);
        }
        return all;
    }

    private static long tenTo(int power) {
        long result = 1;
        for (int i = 0; i < power; i++) {
            result *= 10;
        }
        return result;
    }

    private static long lowestTerm(long above, long below, int part) {
        long common = commonDivisor(above, below);
        long term = part == 0 ? above : below;
        return common == 0 ? term : term / common;
    }

    private static long commonDivisor(long a, long b) {
        long divisor = a;
        long rest = b;
        // Some ninety turns are the most that two longs can need.
        for (int turn = 0; turn < 1000 && rest != 0; turn++) {
            long next = divisor % rest;
            divisor = rest;
            rest = next;
        }
        return divisor;
    }

    /** The letters told so far. */
    private static final class Page {
        private static final int MOST_LETTERS = 20, PER_SEAT = 4;
        private static final String KIND_LETTERS = "psfdc";

        private final int[] codes = new int[MOST_LETTERS];
        private int size;

        int size() {
            return size;
        }

        int codeAt(int place) {
            return at(codes, place);
        }

        boolean add(int code) {
            if (size < 0 || size >= codes.length) {
                return false;
            }
            codes[size] = code;
            size++;
            return true;
        }

        int empty() {
            int had = size;
            size = 0;
            return had;
        }

        int firstWrong() {
            int place = 0;
            while (place < size && belongs(place, codeAt(place))) {
                place++;
            }
            return place;
        }

        /** How many councillors the letters tell; 0 if they are no council. */
        int councilSeats() {
            int seats = (size + 1) / PER_SEAT;
            boolean whole = size == seats * PER_SEAT - 1 && firstWrong() == size;
            return whole && seats >= FEWEST_SEATS ? seats : 0;
        }

        int kindAt(int seat) {
            return KIND_LETTERS.indexOf((char) codeAt(seat * PER_SEAT));
        }

        int noseAt(int seat) {
            return codeAt(seat * PER_SEAT + 1) - '0';
        }

        int sayingAt(int seat) {
            return codeAt(seat * PER_SEAT + 2) - '0';
        }

        // What may stand at a place never depends on the letters ahead of it.
        private static boolean belongs(int place, int code) {
            if (place >= MOST_SEATS * PER_SEAT - 1) {
                return false;
            }
            switch (place % PER_SEAT) {
                case 0: return KIND_LETTERS.indexOf((char) code) >= 0;
                case 1: return code >= '0' && code <= '9';
                case 2: return code >= '0' && code < '0' + LAW_COUNT;
                default: return code == ',';
            }
        }
    }

    /** How laws that hold are changed by a law that is said. */
    private static final class Statutes {
        static int said(int held, int law) {
            switch (law) {
                case 0: return held | 1;
                case 1: return held & ~1 | 2;
                case 2: return (held & 3) != 0 ? held | 4 : held;
                case 3: return held | 8;
                case 4: return 16;
                case 5: return held & ~8 | 32;
                default: return held;
            }
        }

        /** By how few laws just the wanted ones hold; NONE: not by so many. */
        static int fewest(int held, int wanted, int most) {
            // One bit for each of the 64 sets of laws that can hold.
            long reached = 1L << held;
            for (int laws = 0; laws <= most; laws++) {
                if ((reached >> wanted & 1) != 0) {
                    return laws;
                }
                reached = afterOneMore(reached);
            }
            return NONE;
        }

        static int firstSaid(int held, int wanted, int fewest) {
            if (fewest <= 0) {
                return NONE;
            }
            for (int law = 0; law < LAW_COUNT; law++) {
                if (fewest(said(held, law), wanted, fewest - 1) != NONE) {
                    return law;
                }
            }
            return NONE;
        }

        private static long afterOneMore(long reached) {
            long after = 0;
            for (int held = 0; held < LAW_SETS; held++) {
                if ((reached >> held & 1) != 0) {
                    for (int law = 0; law < LAW_COUNT; law++) {
                        after |= 1L << said(held, law);
                    }
                }
            }
            return after;
        }
    }

    /** The councillors and all that is so in an hour. */
    private static final class Council {
        private final int[] kinds = new int[MOST_SEATS];
        private final int[] noses = new int[MOST_SEATS];
        private final int[] sayings = new int[MOST_SEATS];
        private final int[] reigns = new int[MOST_SEATS];
        private final int[] kings = new int[SEAT_SETS];
        private final int[] told = new int[MOST_TOLD];
        private int seats;
        private int draughtAt = NONE;
        private boolean peppered;
        private int held;
        private int hourNumber;
        private int toldHours;

        void readFrom(Page page, int howMany) {
            seats = Math.min(howMany, MOST_SEATS);
            for (int seat = 0; seat < seats; seat++) {
                exchange(kinds, seat, page.kindAt(seat));
                exchange(noses, seat, page.noseAt(seat));
                exchange(sayings, seat, page.sayingAt(seat));
            }
            // Who is king is asked for each set again and again, and depends on kinds alone.
            for (int set = 0; set < kings.length; set++) {
                kings[set] = findKing(set);
            }
            Arrays.fill(reigns, 0);
            draughtAt = NONE;
            peppered = false;
            held = 0;
            hourNumber = 0;
            toldHours = 0;
        }

        /** Takes over what an image keeps; kinds can't have changed since. */
        void takeOver(Council other) {
            copy(other.noses, noses);
            copy(other.sayings, sayings);
            copy(other.reigns, reigns);
            copy(other.told, told);
            draughtAt = other.draughtAt;
            peppered = other.peppered;
            held = other.held;
            hourNumber = other.hourNumber;
            toldHours = other.toldHours;
        }

        int seats() {
            return seats;
        }

        boolean seated(int seat) {
            return seat >= 0 && seat < seats;
        }

        int kindOf(int seat) {
            return at(kinds, seat);
        }

        boolean isKind(int seat, int kind) {
            switch (kind) {
                case STIFLER:
                case DEAN:
                case CAT: return at(kinds, seat) == kind;
                case FEVERED: return at(kinds, seat) == FEVERED || at(kinds, seat) == CAT;
                default: return true;
            }
        }

        int noseOf(int seat) {
            return at(noses, seat);
        }

        int changeNose(int seat, int tenths) {
            return exchange(noses, seat, tenths);
        }

        int sayingOf(int seat) {
            return at(sayings, seat);
        }

        int changeSaying(int seat, int law) {
            return exchange(sayings, seat, law);
        }

        int reignsOf(int seat) {
            return at(reigns, seat);
        }

        int reignsOfAll() {
            return sum(reigns, seats);
        }

        int draughtAt() {
            return draughtAt;
        }

        int moveDraught(int seat) {
            int was = draughtAt;
            draughtAt = seat;
            return was;
        }

        boolean peppered() {
            return peppered;
        }

        boolean changePepper(boolean is) {
            boolean was = peppered;
            peppered = is;
            return was;
        }

        int held() {
            return held;
        }

        int hourNumber() {
            return hourNumber;
        }

        int toldHours() {
            return toldHours;
        }

        int toldAt(int place) {
            return at(told, place);
        }

        boolean tell(int set) {
            if (toldHours < 0 || toldHours >= told.length) {
                return false;
            }
            told[toldHours] = set;
            toldHours++;
            return true;
        }

        int forgetTold() {
            int had = toldHours;
            toldHours = 0;
            return had;
        }

        int tenthsNow(int seat) {
            return tenthsIn(seat, hourNumber, held, draughtAt);
        }

        int tenthsIn(int seat, int number, int lawsHeld, int draught) {
            boolean cat = isKind(seat, CAT);
            if (isIn(lawsHeld, SNEEZING_BAN) && !cat) {
                return 0;
            }
            int tenths = at(noses, seat);
            if (seat == draught) {
                tenths += 2;
            }
            if (number % 2 == 0 && isKind(seat, FEVERED)) {
                tenths += 1;
            }
            if (peppered && cat) {
                tenths += 3;
            }
            return Math.min(tenths, MOST_TENTHS);
        }

        boolean canSneeze(int set) {
            int able = 0;
            for (int seat = 0; seat < seats; seat++) {
                if (tenthsNow(seat) > 0) {
                    able |= 1 << seat;
                }
            }
            return (set & ~able) == 0;
        }

        int kingOf(int set) {
            return set >= 0 && set < kings.length ? kings[set] : NONE;
        }

        int passHour(int set) {
            int king = kingOf(set);
            if (seated(king)) {
                exchange(reigns, king, at(reigns, king) + 1);
                held = Statutes.said(held, sayingOf(king));
            }
            hourNumber++;
            return king;
        }

        private int findKing(int set) {
            int sneezers = 0, sneezer = NONE, deans = 0, dean = NONE;
            for (int seat = 0; seat < seats; seat++) {
                if (isIn(set, seat)) {
                    sneezers++;
                    sneezer = seat;
                    if (isKind(seat, DEAN)) {
                        deans++;
                        dean = seat;
                    }
                }
            }
            if (sneezers == 1) {
                return isKind(sneezer, STIFLER) ? nextOf(sneezer) : sneezer;
            }
            return deans == 1 ? dean : NONE;
        }

        private int nextOf(int seat) {
            return seat + 1 < seats ? seat + 1 : 0;
        }
    }

    /**
     * What hours that come would bring, as weights: of each set of laws that can
     * hold ahead of an hour how much leads from it to what is looked for. Weights
     * are parts of 10 to the councillors in an hour, or ways to sneeze.
     */
    private static final class Prospect {
        private final Council council;
        private final long[] sneezing = new long[MOST_SEATS];
        private final long[] silent = new long[MOST_SEATS];
        private final long[] bySet = new long[SEAT_SETS];
        private final long[] kingsFree = new long[MOST_SEATS + 1];
        private final long[] kingsBanned = new long[MOST_SEATS + 1];
        private long[] worth = new long[LAW_SETS];
        private long[] spare = new long[LAW_SETS];

        Prospect(Council council) {
            this.council = council;
        }

        long kingWeight(int seat, int draught) {
            weighTenths(council.hourNumber(), council.held(), draught);
            crown(kingsFree);
            return at(kingsFree, seat + 1);
        }

        long worthFrom(int held) {
            return at(worth, held);
        }

        void lookForLaw(int law, int hours) {
            for (int held = 0; held < worth.length; held++) {
                worth[held] = isIn(held, law) ? 1 : 0;
            }
            for (int ahead = hours - 1; ahead >= 0; ahead--) {
                int number = council.hourNumber() + ahead;
                weighTenths(number, 0, council.draughtAt());
                crown(kingsFree);
                weighTenths(number, 1 << SNEEZING_BAN, council.draughtAt());
                crown(kingsBanned);
                stepBack();
            }
        }

        /** Ways that fit the book; if a councillor is told, those in which he sneezed at a place of it. */
        void lookForBook(int seat, int place) {
            Arrays.fill(worth, 1);
            for (int ahead = council.toldHours() - 1; ahead >= 0; ahead--) {
                int number = council.hourNumber() + ahead;
                int sneezer = ahead == place ? seat : NONE;
                keepJust(council.toldAt(ahead));
                weighWays(number, 0, sneezer);
                crown(kingsFree);
                weighWays(number, 1 << SNEEZING_BAN, sneezer);
                crown(kingsBanned);
                stepBack();
            }
        }

        private void keepJust(int told) {
            for (int held = 0; held < worth.length && told != NONE; held++) {
                if (held != told) {
                    worth[held] = 0;
                }
            }
        }

        private void weighTenths(int number, int held, int draught) {
            for (int seat = 0; seat < council.seats() && seat < MOST_SEATS; seat++) {
                int tenths = council.tenthsIn(seat, number, held, draught);
                sneezing[seat] = tenths;
                silent[seat] = ALL_TENTHS - tenths;
            }
        }

        private void weighWays(int number, int held, int sneezer) {
            for (int seat = 0; seat < council.seats() && seat < MOST_SEATS; seat++) {
                int tenths = council.tenthsIn(seat, number, held, council.draughtAt());
                sneezing[seat] = tenths > 0 ? 1 : 0;
                silent[seat] = seat == sneezer ? 0 : 1;
            }
        }

        /** Fills a row: nobody first, then each councillor, by how much makes him king. */
        private void crown(long[] row) {
            int sets = weighSets();
            Arrays.fill(row, 0);
            for (int set = 0; set < sets && set < bySet.length; set++) {
                int place = council.kingOf(set) + 1;
                if (place >= 0 && place < row.length) {
                    row[place] += bySet[set];
                }
            }
        }

        private int weighSets() {
            bySet[0] = 1;
            int sets = 1;
            for (int seat = 0; seat < council.seats() && seat < MOST_SEATS; seat++) {
                for (int set = 0; set < sets && set + sets < bySet.length; set++) {
                    bySet[set + sets] = bySet[set] * sneezing[seat];
                    bySet[set] *= silent[seat];
                }
                sets *= 2;
            }
            return sets;
        }

        private void stepBack() {
            for (int held = 0; held < spare.length; held++) {
                spare[held] = worthAhead(held);
            }
            long[] ahead = spare;
            spare = worth;
            worth = ahead;
        }

        private long worthAhead(int held) {
            long[] row = isIn(held, SNEEZING_BAN) ? kingsBanned : kingsFree;
            long all = at(row, 0) * at(worth, held);
            for (int seat = 0; seat < council.seats(); seat++) {
                long weight = at(row, seat + 1);
                if (weight != 0) {
                    all += weight * at(worth, Statutes.said(held, council.sayingOf(seat)));
                }
            }
            return all;
        }
    }

    /** Hours as a seed has them; the council itself stays as it is. */
    private static final class Years {
        private final Council council;
        private final int[] reigns = new int[MOST_SEATS];
        private int held;
        private long seed;

        Years(Council council) {
            this.council = council;
        }

        static boolean tells(int what) {
            return what >= 0 && what <= 2 || what >= 10 && what < 10 + MOST_SEATS;
        }

        void live(int hours, int firstSeed) {
            Arrays.fill(reigns, 0);
            held = council.held();
            seed = firstSeed;
            for (int passed = 0; passed < hours; passed++) {
                liveHour(council.hourNumber() + passed);
            }
        }

        int answer(int what) {
            switch (what) {
                case 0: return sum(reigns, reigns.length);
                case 1: return held;
                case 2: return (int) seed;
                default: return at(reigns, what - 10);
            }
        }

        private void liveHour(int number) {
            int king = council.kingOf(drawSneezers(number));
            if (council.seated(king)) {
                exchange(reigns, king, at(reigns, king) + 1);
                held = Statutes.said(held, council.sayingOf(king));
            }
        }

        private int drawSneezers(int number) {
            int set = 0;
            for (int seat = 0; seat < council.seats(); seat++) {
                if (drawOfTen() < council.tenthsIn(seat, number, held, council.draughtAt())) {
                    set |= 1 << seat;
                }
            }
            return set;
        }

        private int drawOfTen() {
            seed = (1103515245L * seed + 12345L) % (1L << 31);
            return (int) (seed / 65536 % 10);
        }
    }
}
