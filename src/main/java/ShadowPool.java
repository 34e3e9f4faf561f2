import java.util.NoSuchElementException;

/** Shadows until the lamplighter. The promises that comments name are those of the project's document. */
public final class ShadowPool {
    public static final int NONE = -1;

    /** What a call answers where there are not so many, or there is none at all. */
    private static final int NO_SUCH_MANY = -2;
    private static final int TAPE_MOST = 700;
    private static final int TAPE_STEP = 20;
    /** The most THINGS, and the most LAMPS. */
    private static final int MOST = 5;
    private static final int MEETINGS_MOST = 10;
    private static final int PLACE_MOST = 29;
    private static final int SHAPE_MOST = 511;
    private static final int DAY_MOST = 999;
    private static final int THIEF = 1;
    private static final int SHY = 2;
    private static final int QUEUE = 0;
    private static final int STACK = 1;
    private static final int FIT = 2;
    private static final int LATE = 0;
    private static final int NEAR = 1;
    private static final int PRICE = 2;

    private final Reader reader = new Reader();
    private final byte[] tape = reader.scan.bytes;
    private int taped;
    private int faultKind;
    private int faultPlace = NONE;
    private final Finder finder = new Finder();
    private final Day day = finder.day;
    private final Told told = day.told;
    private final Ways ways = day.ways;
    private final Scene now = new Scene();
    private final Scene image = new Scene();
    private boolean imaged;
    private final Scene trial = new Scene();
    private final Swapper swapper = new Swapper();
    private final Memory memory = new Memory();
    private final Deeds deeds = new Deeds();

    /** Promise 1. */
    public ShadowPool() {
        // a TEXT without LINES and an empty TAPE are what the fields begin with
    }

    /** Promise 2. */
    public int feed(int a, int b, int c, int d, int e) {
        if (taped + TAPE_STEP > TAPE_MOST) {
            return NONE;
        }
        putOnTape(a);
        putOnTape(b);
        putOnTape(c);
        putOnTape(d);
        putOnTape(e);
        return taped;
    }

    private void putOnTape(int four) {
        for (int shift = 24; shift >= 0 && taped < TAPE_MOST; shift -= 8) {
            tape[taped] = (byte) (four >> shift);
            taped++;
        }
    }

    /** Promise 3. */
    public int text(int n) {
        if (n < 0 || n > taped) {
            return NO_SUCH_MANY;
        }
        int lines = reader.read(n);
        taped = 0;
        faultKind = reader.faultKind;
        faultPlace = reader.faultPlace;
        if (faultKind != 0) {
            return NONE;
        }
        told.copyFrom(reader.draft);
        ways.follow(told);
        now.begin(told);
        memory.clear();
        deeds.clear();
        imaged = false;
        return lines;
    }

    /** Promise 4. */
    public int fault(int what) {
        if (what == 0) {
            return faultKind;
        }
        return what == 1 ? faultPlace : NONE;
    }

    /** Promise 5. */
    public int named(int letters) {
        return told.thingNamed(letters);
    }

    /** Promise 6. */
    public int thing(int thing, int what) throws IndexOutOfBoundsException, NoSuchElementException {
        if (!isThing(thing)) {
            throw new IndexOutOfBoundsException("no such THING");
        }
        switch (what) {
            case 0:
                return told.place[thing];
            case 1:
                return now.has[thing];
            case 2:
                return told.size[thing];
            case 3:
                return told.shape[thing];
            case 4:
                return told.comes[thing];
            case 5:
                return told.how[thing];
            default:
                throw new NoSuchElementException("no such what");
        }
    }

    /** Promise 7. */
    public int lamp(int lamp, int what) {
        if (!isLamp(lamp)) {
            return NONE;
        }
        switch (what) {
            case 0:
                return now.hung[lamp];
            case 1:
                return told.reach[lamp];
            case 2:
                return now.turnOf(lamp);
            default:
                return NONE;
        }
    }

    /** Promise 8. */
    public int wall(int k) {
        if (k < 0) {
            return NONE;
        }
        return k < now.rowLength ? now.row[k] : NO_SUCH_MANY;
    }

    /** Promise 9. */
    public long law(int what, int thing, int lamp) {
        if (!isThing(thing) || what < 0 || what > 2) {
            return Long.MIN_VALUE;
        }
        if (what == 0) {
            return day.worth(now, LATE, thing);
        }
        if (what == 1) {
            return day.worth(now, PRICE, thing);
        }
        return isLamp(lamp) ? day.nearWorth(now, thing, lamp) : Long.MIN_VALUE;
    }

    /** Promise 10. */
    public boolean hang(int lamp, int place) {
        if (!isLamp(lamp) || !isPlace(place) || now.hung[lamp] == place) {
            return false;
        }
        deeds.add(Deeds.HUNG, lamp, now.hung[lamp], 0);
        now.hung[lamp] = place;
        return true;
    }

    /** Promise 11. */
    public boolean turn(int one, int other) {
        if (!isLamp(one) || !isLamp(other) || one == other) {
            return false;
        }
        deeds.add(Deeds.TURNED, one, other, 0);
        now.exchangeTurns(one, other);
        return true;
    }

    /** Promise 12. */
    public boolean trade(int one, int other) {
        if (!areTwoThings(one, other) || (now.has[one] == NONE && now.has[other] == NONE)) {
            return false;
        }
        deeds.add(Deeds.TRADED, one, other, 0);
        now.exchange(one, other);
        return true;
    }

    /** Promise 13. */
    public boolean meet(int one, int other, boolean is) {
        if (!areTwoThings(one, other)) {
            return false;
        }
        int at = now.findMeeting(one, other);
        if (is == (at != NONE) || (is && now.meetings >= MEETINGS_MOST)) {
            return false;
        }
        if (is) {
            deeds.add(Deeds.MET, one, other, now.meetings);
            now.addMeeting(now.meetings, one, other);
        } else {
            deeds.add(Deeds.PARTED, now.first[at], now.second[at], at);
            now.removeMeeting(at);
        }
        return true;
    }

    /** Promise 14. */
    public boolean meets(int one, int other) {
        return areTwoThings(one, other) && now.findMeeting(one, other) != NONE;
    }

    /** Promise 15. */
    public int days(int n) {
        if (n < 0 || n > 50 || now.day + n > DAY_MOST) {
            return NONE;
        }
        for (int i = 0; i < n; i++) {
            day.passByNumbers(now);
        }
        if (n > 0) {
            deeds.clear();
        }
        return now.day;
    }

    /** Promise 16. */
    public int own() {
        return now.countOwn();
    }

    /** Promise 17. */
    public int best(int what) {
        if (what < 0 || what > MOST) {
            return NONE;
        }
        int owned = finder.findBestOrder(now);
        return what == MOST ? owned : finder.lampFound(what);
    }

    /** Promise 18. */
    public int gives(int thing, int shadow, int what) {
        if (!isThing(thing) || !isThing(shadow) || what < 0 || what >= MOST) {
            return NONE;
        }
        return finder.findGivingOrder(now, thing, shadow) ? finder.lampFound(what) : NO_SUCH_MANY;
    }

    /** Promise 19. */
    public int hangs(int what) {
        if (what < 0 || what > 2) {
            return NONE;
        }
        if (!finder.findHang(now)) {
            return NO_SUCH_MANY;
        }
        if (what == 0) {
            return finder.hangLamp;
        }
        return what == 1 ? finder.hangPlace : finder.hangOwn;
    }

    /** Promise 20. */
    public int swaps() {
        return swapper.find(now);
    }

    /** Promise 21. */
    public int swap(int k) {
        if (k < 0) {
            return NONE;
        }
        if (k >= swapper.find(now)) {
            return NO_SUCH_MANY;
        }
        return swapper.pairOf(now, k);
    }

    /** Promise 22. */
    public int look(int shadow) {
        return isThing(shadow) ? told.looks[shadow] : NONE;
    }

    /** Promise 23. */
    public int alike(int shadow) {
        return isThing(shadow) ? told.shadowsLooking(told.looks[shadow]) : NONE;
    }

    /** Promise 24. */
    public int sorts() {
        int sum = 0;
        for (int shadow = 0; shadow < told.things; shadow++) {
            int earlier = (1 << shadow) - 1;
            if ((told.shadowsLooking(told.looks[shadow]) & earlier) == 0) {
                sum++;
            }
        }
        return sum;
    }

    /** Promise 25. */
    public int whose(int shape) {
        return isShape(shape) ? told.shadowsLooking(Told.lookOf(shape)) : NONE;
    }

    /** Promise 26. */
    public int see(int days, int thing, int shape) {
        if (days < 1 || days > Memory.DAYS_MOST || !isThing(thing) || !isShape(shape)) {
            return NONE;
        }
        return memory.add(days, thing, Told.lookOf(shape));
    }

    /** Promise 27. */
    public int strike(int seen) {
        if (seen < 0 || seen >= memory.size) {
            return NONE;
        }
        return memory.add(Memory.STRIKE, NONE, seen);
    }

    /** Promise 28. */
    public boolean known(int n) {
        if (n < Memory.ALL || n > memory.size) {
            return false;
        }
        memory.by = n;
        return true;
    }

    /** Promise 29. */
    public int rules() {
        memory.judge();
        int bits = 0;
        for (int rule = QUEUE; rule <= FIT; rule++) {
            ways.rule = rule;
            if (agrees()) {
                bits |= 1 << rule;
            }
        }
        ways.follow(told);
        return bits;
    }

    private boolean agrees() {
        trial.begin(told);
        int last = memory.lastDay();
        for (int days = 1; days <= last; days++) {
            day.pass(trial);
            if (!memory.agrees(days, trial, told)) {
                return false;
            }
        }
        return true;
    }

    /** Promise 30. */
    public int rests(int one, int other) {
        return areTwoThings(one, other) ? finder.findRests(now, one, other) : NONE;
    }

    /** Promise 31. */
    public int rest(int one, int other, int k) {
        if (!areTwoThings(one, other) || k < 0) {
            return NONE;
        }
        return k < finder.findRests(now, one, other) ? finder.restAt(k) : NO_SUCH_MANY;
    }

    /** Promise 32. */
    public int price(int thing) {
        return isThing(thing) ? day.priceOf(now, thing) : NONE;
    }

    /** Promise 33. */
    public int season(int thing, int n, int what) {
        if (!isThing(thing) || n < 1 || n > 20 || what < 0 || what > 1) {
            return NONE;
        }
        trial.copyFrom(now);
        int dearest = NONE;
        int when = now.day;
        for (int i = 0; i < n; i++) {
            int cost = day.priceOf(trial, thing);
            if (cost > dearest) {
                dearest = cost;
                when = trial.day;
            }
            day.pass(trial);
        }
        return what == 0 ? when : dearest;
    }

    /** Promise 34. */
    public int whole(int thing, int n, int what) {
        if (!isThing(thing) || n < 1 || n > 4 || what < 0 || what > 1) {
            return NONE;
        }
        long above = 0;
        long below = 1;
        for (int i = 0; i < n; i++) {
            below *= 100;
        }
        for (int fogs = 0; fogs < 1 << n; fogs++) {
            long weight = weightOf(fogs, n);
            if (weight > 0 && endsWithOwn(thing, fogs, n)) {
                above += weight;
            }
        }
        long shared = greatestDivisor(above, below);
        return (int) ((what == 0 ? above : below) / (shared > 0 ? shared : 1));
    }

    /** How many of 100 to the n ways have fog on just the days told by bits. */
    private long weightOf(int fogs, int n) {
        long weight = 1;
        for (int i = 0; i < n; i++) {
            weight *= (fogs >> i & 1) == 1 ? told.fog : 100 - told.fog;
        }
        return weight;
    }

    private boolean endsWithOwn(int thing, int fogs, int n) {
        trial.copyFrom(now);
        for (int i = 0; i < n; i++) {
            if ((fogs >> i & 1) == 1) {
                day.passInFog(trial);
            } else {
                day.pass(trial);
            }
        }
        return trial.has[thing] == thing;
    }

    private static long greatestDivisor(long one, long other) {
        long a = one;
        long b = other;
        for (int i = 0; i < 100 && b != 0; i++) {
            long left = a % b;
            a = b;
            b = left;
        }
        return a;
    }

    /** Promise 35. */
    public int chance(int seed, int n, int bound) {
        if (seed < 0 || n < 1 || n > 20 || bound < 0 || bound > MOST) {
            return NONE;
        }
        int sum = 0;
        int number = seed;
        for (int time = 0; time < 10; time++) {
            trial.copyFrom(now);
            trial.number = number;
            for (int i = 0; i < n; i++) {
                day.passByNumbers(trial);
            }
            number = trial.number;
            if (trial.countOwn() >= bound) {
                sum++;
            }
        }
        return sum;
    }

    /** Promise 36. */
    public int tried(int what, int i, int n) {
        if (n < 0 || n > 20 || !canBeTried(what, i)) {
            return NONE;
        }
        trial.copyFrom(now);
        switch (what) {
            case 0:
                trial.meetings = 0;
                break;
            case 1:
                ways.reachAll();
                break;
            case 2:
                ways.cheerAll();
                break;
            case 3:
                ways.how[i] = THIEF;
                break;
            default:
                trial.takeDown(i);
                break;
        }
        for (int k = 0; k < n; k++) {
            day.pass(trial);
        }
        ways.follow(told);
        return trial.countOwn();
    }

    private boolean canBeTried(int what, int i) {
        if (what == 3) {
            return isThing(i);
        }
        if (what == 4) {
            return isLamp(i);
        }
        return what >= 0 && what <= 2 && i == 0;
    }

    /** Promise 37. */
    public int undo() {
        int last = deeds.size - 1;
        if (last < 0) {
            return NONE;
        }
        deeds.reverse(last, now);
        deeds.size = last;
        return last;
    }

    /** Promise 38. */
    public int keep() {
        image.copyFrom(now);
        imaged = true;
        return now.day;
    }

    /** Promise 39. */
    public int back() {
        if (!imaged) {
            return NONE;
        }
        now.copyFrom(image);
        deeds.clear();
        return now.day;
    }

    /** Promise 40. */
    public int count(int what) {
        switch (what) {
            case 0:
                return told.things;
            case 1:
                return told.lamps;
            case 2:
                return now.meetings;
            case 3:
                return told.rule;
            case 4:
                return told.laws.knots;
            case 5:
                return now.day;
            case 6:
                return now.rowLength;
            case 7:
                return memory.size;
            case 8:
                return memory.countBy();
            case 9:
                return deeds.size;
            default:
                return NONE;
        }
    }

    private boolean isThing(int thing) {
        return thing >= 0 && thing < told.things;
    }

    private boolean areTwoThings(int one, int other) {
        return isThing(one) && isThing(other) && one != other;
    }

    private boolean isLamp(int lamp) {
        return lamp >= 0 && lamp < told.lamps;
    }

    /** Which MEETING of the first n is that of two, either way. */
    private static int findPair(int[] first, int[] second, int n, int one, int other) {
        for (int i = 0; i < n && i < MEETINGS_MOST; i++) {
            if (first[i] == one && second[i] == other || first[i] == other && second[i] == one) {
                return i;
            }
        }
        return NONE;
    }

    private static boolean isPlace(int place) {
        return place >= 0 && place <= PLACE_MOST;
    }

    private static boolean isShape(int shape) {
        return shape >= 0 && shape <= SHAPE_MOST;
    }

    /** What a TEXT told; nothing of it changes until the next TEXT. */
    private static final class Told {
        private static final int TOP_ROW = 448;
        private static final int LEFT_COLUMN = 292;
        private static final int MIDDLE_COLUMN = 146;
        private static final int RIGHT_COLUMN = 73;

        int things;
        final int[] letters = new int[MOST];
        final int[] place = new int[MOST];
        final int[] size = new int[MOST];
        final int[] shape = new int[MOST];
        final int[] looks = new int[MOST];
        final int[] comes = new int[MOST];
        final int[] how = new int[MOST];
        int lamps;
        final int[] hung = new int[MOST];
        final int[] reach = new int[MOST];
        int meetings;
        final int[] first = new int[MEETINGS_MOST];
        final int[] second = new int[MEETINGS_MOST];
        int rule;
        int fog;
        int seed;
        final Laws laws = new Laws();

        void clear() {
            things = 0;
            lamps = 0;
            meetings = 0;
            rule = QUEUE;
            fog = 0;
            seed = 0;
            laws.clear();
        }

        void copyFrom(Told other) {
            things = other.things;
            System.arraycopy(other.letters, 0, letters, 0, MOST);
            System.arraycopy(other.place, 0, place, 0, MOST);
            System.arraycopy(other.size, 0, size, 0, MOST);
            System.arraycopy(other.shape, 0, shape, 0, MOST);
            System.arraycopy(other.looks, 0, looks, 0, MOST);
            System.arraycopy(other.comes, 0, comes, 0, MOST);
            System.arraycopy(other.how, 0, how, 0, MOST);
            lamps = other.lamps;
            System.arraycopy(other.hung, 0, hung, 0, MOST);
            System.arraycopy(other.reach, 0, reach, 0, MOST);
            meetings = other.meetings;
            System.arraycopy(other.first, 0, first, 0, MEETINGS_MOST);
            System.arraycopy(other.second, 0, second, 0, MEETINGS_MOST);
            rule = other.rule;
            fog = other.fog;
            seed = other.seed;
            laws.copyFrom(other.laws);
        }

        int thingNamed(int packed) {
            for (int i = 0; i < things; i++) {
                if (letters[i] == packed) {
                    return i;
                }
            }
            return NONE;
        }

        int findMeeting(int one, int other) {
            return findPair(first, second, meetings, one, other);
        }

        int sizeOf(int shadow) {
            return shadow >= 0 && shadow < things ? size[shadow] : 0;
        }

        int shadowsLooking(int wanted) {
            int bits = 0;
            for (int i = 0; i < things; i++) {
                if (looks[i] == wanted) {
                    bits |= 1 << i;
                }
            }
            return bits;
        }

        static int lookOf(int shape) {
            int straight = moveUpAndLeft(shape);
            int mirrored = (straight & LEFT_COLUMN) >> 2 | straight & MIDDLE_COLUMN | (straight & RIGHT_COLUMN) << 2;
            return Math.min(straight, moveUpAndLeft(mirrored));
        }

        private static int moveUpAndLeft(int shape) {
            int moved = shape;
            for (int i = 0; i < 2 && (moved & TOP_ROW) == 0; i++) {
                moved <<= 3;
            }
            for (int i = 0; i < 2 && (moved & LEFT_COLUMN) == 0; i++) {
                moved <<= 1;
            }
            return moved;
        }
    }

    /** The laws of a TEXT, each one's KNOTS in the order in which they are worked out. */
    private static final class Laws {
        static final int KNOTS_MOST = 64;
        static final int NAMES = 7;
        private static final long VALUE_MOST = 1000000000000L;

        final int[] kind = new int[KNOTS_MOST];
        final int[] value = new int[KNOTS_MOST];
        int knots;
        final int[] from = new int[3];
        final int[] to = new int[3];
        final long[] names = new long[NAMES];
        private final long[] stack = new long[KNOTS_MOST];

        void clear() {
            knots = 0;
            for (int law = 0; law < 3; law++) {
                from[law] = 0;
                to[law] = 0;
            }
        }

        void copyFrom(Laws other) {
            knots = other.knots;
            System.arraycopy(other.kind, 0, kind, 0, KNOTS_MOST);
            System.arraycopy(other.value, 0, value, 0, KNOTS_MOST);
            System.arraycopy(other.from, 0, from, 0, 3);
            System.arraycopy(other.to, 0, to, 0, 3);
        }

        void put(int knotKind, int knotValue) {
            if (knots < KNOTS_MOST) {
                kind[knots] = knotKind;
                value[knots] = knotValue;
                knots++;
            }
        }

        boolean isTold(int law) {
            return from[law] < to[law];
        }

        /** E of a law by the names as they stand; Long.MIN_VALUE with an ERROR or without such a law. */
        long work(int law) {
            int height = 0;
            for (int k = from[law]; k < to[law] && height < KNOTS_MOST; k++) {
                int knot = kind[k];
                if (knot == Scanner.NUMBER) {
                    stack[height++] = value[k];
                } else if (knot >= Scanner.SIZE && knot <= Scanner.WHICH) {
                    stack[height++] = names[knot - Scanner.SIZE];
                } else if (height > 0 && knot == Scanner.NOT) {
                    stack[height - 1] = stack[height - 1] == 0 ? 1 : 0;
                } else if (height > 1) {
                    height--;
                    long joined = join(knot, stack[height - 1], stack[height]);
                    if (joined < -VALUE_MOST || joined > VALUE_MOST) {
                        return Long.MIN_VALUE;
                    }
                    stack[height - 1] = joined;
                }
            }
            return height == 1 ? stack[0] : Long.MIN_VALUE;
        }

        private static long join(int sign, long a, long b) {
            switch (sign) {
                case Scanner.OR:
                    return a != 0 || b != 0 ? 1 : 0;
                case Scanner.AND:
                    return a != 0 && b != 0 ? 1 : 0;
                case Scanner.LESS:
                    return a < b ? 1 : 0;
                case Scanner.AT_MOST:
                    return a <= b ? 1 : 0;
                case Scanner.EQUAL:
                    return a == b ? 1 : 0;
                case Scanner.UNLIKE:
                    return a != b ? 1 : 0;
                case Scanner.AT_LEAST:
                    return a >= b ? 1 : 0;
                case Scanner.MORE:
                    return a > b ? 1 : 0;
                case Scanner.PLUS:
                    return a + b;
                case Scanner.MINUS:
                    return a - b;
                case Scanner.TIMES:
                    // a product of two values may pass the range of a long, so it is judged by a division
                    return a != 0 && Math.abs(b) > VALUE_MOST / Math.abs(a) ? Long.MIN_VALUE : a * b;
                default:
                    return b == 0 ? Long.MIN_VALUE : a / b;
            }
        }
    }

    /** Cuts a text into TOKENS. */
    private static final class Scanner {
        static final int THING = 0;
        static final int LAMP = 1;
        static final int MEET = 2;
        static final int RULE = 3;
        static final int FOG = 4;
        static final int SEED = 5;
        static final int LAW = 6;
        static final int THIEF_WORD = 7;
        static final int SHY_WORD = 8;
        static final int QUEUE_WORD = 9;
        static final int FIT_WORD = 11;
        static final int LATE_WORD = 12;
        static final int PRICE_WORD = 14;
        static final int OR = 15;
        static final int AND = 16;
        static final int NOT = 17;
        static final int SIZE = 18;
        static final int WHICH = 24;
        static final int OWN_WORD = 25;
        static final int NUMBER = 26;
        static final int SEMICOLON = 27;
        static final int OPEN = 28;
        static final int CLOSE = 29;
        static final int LESS = 30;
        static final int AT_MOST = 31;
        static final int EQUAL = 32;
        static final int UNLIKE = 33;
        static final int AT_LEAST = 34;
        static final int MORE = 35;
        static final int PLUS = 36;
        static final int MINUS = 37;
        static final int TIMES = 38;
        static final int OVER = 39;
        static final int END = 40;
        static final int BAD = 41;
        /** Above every number that a text may tell; the digits of longer ones don't count any more. */
        private static final int NUMBER_MOST = 1000000;
        private static final int LETTERS_MOST = 6;
        private static final int WORDS = 25;
        /** The words of the language, in the order of the numbers THING to WHICH, a blank behind each. */
        private static final String LANGUAGE = "thing lamp meet rule fog seed law thief shy queue stack fit late near price or and not size comes far own kind day which ";

        final byte[] bytes = new byte[TAPE_MOST];
        private final int[] language = new int[WORDS];
        private int length;
        private int at;
        int kind;
        int place;
        int letters;
        int value;

        Scanner() {
            int word = 0;
            int shift = 25;
            for (int i = 0; i < LANGUAGE.length() && word < WORDS; i++) {
                char c = LANGUAGE.charAt(i);
                if (c == ' ') {
                    word++;
                    shift = 25;
                } else {
                    language[word] |= c - 'a' + 1 << shift;
                    shift -= 5;
                }
            }
        }

        void start(int n) {
            length = Math.min(n, TAPE_MOST);
            at = 0;
            advance();
        }

        /** Goes on to the next TOKEN; behind the last one END stands at the text's length. */
        void advance() {
            while (at < length && (bytes[at] == 10 || bytes[at] == 32)) {
                at++;
            }
            place = at;
            if (at >= length) {
                kind = END;
            } else if (isLetter(at)) {
                readWord();
            } else if (isDigit(at)) {
                readNumber();
            } else {
                readSign(bytes[at]);
            }
        }

        private boolean isLetter(int k) {
            return k < length && bytes[k] >= 'a' && bytes[k] <= 'z';
        }

        private boolean isDigit(int k) {
            return k < length && bytes[k] >= '0' && bytes[k] <= '9';
        }

        private boolean isSign(int k, char sign) {
            return k < length && bytes[k] == sign;
        }

        private void readWord() {
            letters = 0;
            while (at < length && isLetter(at)) {
                int shift = 5 * (LETTERS_MOST - 1 - (at - place));
                if (shift >= 0) {
                    letters |= bytes[at] - 'a' + 1 << shift;
                }
                at++;
            }
            kind = at - place > LETTERS_MOST ? BAD : OWN_WORD;
            for (int word = 0; word < WORDS && kind == OWN_WORD; word++) {
                if (language[word] == letters) {
                    kind = word;
                }
            }
        }

        private void readNumber() {
            kind = NUMBER;
            value = 0;
            while (at < length && isDigit(at)) {
                value = Math.min(NUMBER_MOST, value * 10 + bytes[at] - '0');
                at++;
            }
        }

        private void readSign(int c) {
            at++;
            boolean equalBehind = isSign(at, '=');
            switch (c) {
                case '<':
                    kind = equalBehind ? AT_MOST : isSign(at, '>') ? UNLIKE : LESS;
                    break;
                case '>':
                    kind = equalBehind ? AT_LEAST : MORE;
                    break;
                case ';':
                    kind = SEMICOLON;
                    break;
                case '(':
                    kind = OPEN;
                    break;
                case ')':
                    kind = CLOSE;
                    break;
                case '=':
                    kind = EQUAL;
                    break;
                case '+':
                    kind = PLUS;
                    break;
                case '-':
                    kind = MINUS;
                    break;
                case '*':
                    kind = TIMES;
                    break;
                case '/':
                    kind = OVER;
                    break;
                default:
                    kind = BAD;
                    break;
            }
            if (kind == AT_MOST || kind == UNLIKE || kind == AT_LEAST) {
                at++;
            }
        }
    }

    /** Reads a TEXT into a draft, up to its first FAULT. */
    private static final class Reader {
        private static final int CANT_STAND = 1;
        private static final int TOO_MUCH = 2;
        private static final int TOLD_ALREADY = 3;
        private static final int NOT_TOLD = 4;
        private static final int ONESELF = 5;
        private static final int OPEN_MOST = 8;
        /** How tight comparisons bind. */
        private static final int COMPARISON = 4;

        final Scanner scan = new Scanner();
        final Told draft = new Told();
        private final int[] waiting = new int[Laws.KNOTS_MOST + OPEN_MOST];
        private int waits;
        private int counted;
        private int open;
        private boolean operandDue;
        private boolean notMayStand;
        private boolean ruled;
        private boolean fogged;
        private boolean seeded;
        private int taken;
        int faultKind;
        int faultPlace;

        /** How many LINES there are ahead of the end or of the first FAULT. */
        int read(int n) {
            faultKind = 0;
            faultPlace = NONE;
            ruled = false;
            fogged = false;
            seeded = false;
            counted = 0;
            draft.clear();
            scan.start(n);
            int lines = 0;
            while (lines <= n && scan.kind != Scanner.END) {
                if (!readLine() || !pass(Scanner.SEMICOLON)) {
                    return lines;
                }
                lines++;
            }
            return lines;
        }

        private boolean fail(int kind) {
            faultKind = kind;
            faultPlace = scan.place;
            return false;
        }

        private boolean pass(int kind) {
            if (scan.kind != kind) {
                return fail(CANT_STAND);
            }
            scan.advance();
            return true;
        }

        private boolean takeNumber(int least, int most) {
            if (scan.kind != Scanner.NUMBER) {
                return fail(CANT_STAND);
            }
            if (scan.value < least || scan.value > most) {
                return fail(TOO_MUCH);
            }
            taken = scan.value;
            scan.advance();
            return true;
        }

        private boolean readLine() {
            switch (scan.kind) {
                case Scanner.THING:
                    return readThing();
                case Scanner.LAMP:
                    return readLamp();
                case Scanner.MEET:
                    return readMeeting();
                case Scanner.RULE:
                    return readRule();
                case Scanner.FOG:
                    return readFog();
                case Scanner.SEED:
                    return readSeed();
                case Scanner.LAW:
                    return readLaw();
                default:
                    return fail(CANT_STAND);
            }
        }

        private boolean readThing() {
            int thing = draft.things;
            if (thing >= MOST) {
                return fail(TOO_MUCH);
            }
            scan.advance();
            if (scan.kind != Scanner.OWN_WORD) {
                return fail(CANT_STAND);
            }
            if (draft.thingNamed(scan.letters) != NONE) {
                return fail(TOLD_ALREADY);
            }
            draft.letters[thing] = scan.letters;
            scan.advance();
            if (!takeNumber(0, PLACE_MOST)) {
                return false;
            }
            draft.place[thing] = taken;
            if (!takeNumber(1, 9)) {
                return false;
            }
            draft.size[thing] = taken;
            if (!takeNumber(0, SHAPE_MOST)) {
                return false;
            }
            draft.shape[thing] = taken;
            draft.looks[thing] = Told.lookOf(taken);
            if (!takeNumber(0, 9)) {
                return false;
            }
            draft.comes[thing] = taken;
            draft.how[thing] = takeHow();
            draft.things++;
            return true;
        }

        private int takeHow() {
            if (scan.kind != Scanner.THIEF_WORD && scan.kind != Scanner.SHY_WORD) {
                return 0;
            }
            int how = scan.kind == Scanner.THIEF_WORD ? THIEF : SHY;
            scan.advance();
            return how;
        }

        private boolean readLamp() {
            int lamp = draft.lamps;
            if (lamp >= MOST) {
                return fail(TOO_MUCH);
            }
            scan.advance();
            if (!takeNumber(0, PLACE_MOST)) {
                return false;
            }
            draft.hung[lamp] = taken;
            if (!takeNumber(0, PLACE_MOST)) {
                return false;
            }
            draft.reach[lamp] = taken;
            draft.lamps++;
            return true;
        }

        private boolean readMeeting() {
            int meeting = draft.meetings;
            if (meeting >= MEETINGS_MOST) {
                return fail(TOO_MUCH);
            }
            scan.advance();
            if (!findThing()) {
                return false;
            }
            int one = taken;
            scan.advance();
            if (!findThing()) {
                return false;
            }
            if (taken == one) {
                return fail(ONESELF);
            }
            if (draft.findMeeting(one, taken) != NONE) {
                return fail(TOLD_ALREADY);
            }
            draft.first[meeting] = one;
            draft.second[meeting] = taken;
            draft.meetings++;
            scan.advance();
            return true;
        }

        /** Looks a THING up without going on, since FAULTS of a MEETING stand at its second word. */
        private boolean findThing() {
            if (scan.kind != Scanner.OWN_WORD) {
                return fail(CANT_STAND);
            }
            taken = draft.thingNamed(scan.letters);
            return taken != NONE || fail(NOT_TOLD);
        }

        private boolean readRule() {
            if (ruled) {
                return fail(TOLD_ALREADY);
            }
            ruled = true;
            scan.advance();
            if (scan.kind < Scanner.QUEUE_WORD || scan.kind > Scanner.FIT_WORD) {
                return fail(CANT_STAND);
            }
            draft.rule = scan.kind - Scanner.QUEUE_WORD;
            scan.advance();
            return true;
        }

        private boolean readFog() {
            if (fogged) {
                return fail(TOLD_ALREADY);
            }
            fogged = true;
            scan.advance();
            if (!takeNumber(0, 100)) {
                return false;
            }
            draft.fog = taken;
            return true;
        }

        private boolean readSeed() {
            if (seeded) {
                return fail(TOLD_ALREADY);
            }
            seeded = true;
            scan.advance();
            if (!takeNumber(0, 99999)) {
                return false;
            }
            draft.seed = taken;
            return true;
        }

        private boolean readLaw() {
            scan.advance();
            if (scan.kind < Scanner.LATE_WORD || scan.kind > Scanner.PRICE_WORD) {
                return fail(CANT_STAND);
            }
            int law = scan.kind - Scanner.LATE_WORD;
            if (draft.laws.isTold(law)) {
                return fail(TOLD_ALREADY);
            }
            scan.advance();
            int from = draft.laws.knots;
            if (!readExpression()) {
                return false;
            }
            draft.laws.from[law] = from;
            draft.laws.to[law] = draft.laws.knots;
            return true;
        }

        /** Puts operands at once and lets signs wait until what binds tighter is put; ends ahead of a ';'. */
        private boolean readExpression() {
            waits = 0;
            open = 0;
            operandDue = true;
            notMayStand = true;
            for (int i = 0; i <= TAPE_MOST; i++) {
                if (!operandDue && open == 0 && scan.kind == Scanner.SEMICOLON) {
                    putWaiting(1);
                    return true;
                }
                if (!(operandDue ? takeOperand() : takeSign())) {
                    return false;
                }
                scan.advance();
            }
            return fail(CANT_STAND);
        }

        private boolean takeOperand() {
            int kind = scan.kind;
            if (kind == Scanner.OPEN) {
                if (open >= OPEN_MOST) {
                    return fail(TOO_MUCH);
                }
                open++;
                notMayStand = true;
                hold(kind);
                return true;
            }
            if (kind == Scanner.NOT && notMayStand) {
                hold(kind);
                return countKnot();
            }
            boolean isName = kind >= Scanner.SIZE && kind <= Scanner.WHICH;
            if (kind != Scanner.NUMBER && !isName) {
                return fail(CANT_STAND);
            }
            if (!isName && scan.value > 9999) {
                return fail(TOO_MUCH);
            }
            operandDue = false;
            if (!countKnot()) {
                return false;
            }
            draft.laws.put(kind, isName ? 0 : scan.value);
            return true;
        }

        private boolean takeSign() {
            int kind = scan.kind;
            if (kind == Scanner.CLOSE && open > 0) {
                putWaiting(1);
                waits = Math.max(0, waits - 1);
                open--;
                return true;
            }
            int strength = strengthOf(kind);
            if (strength == 0 || kind == Scanner.NOT) {
                return fail(CANT_STAND);
            }
            boolean compares = strength == COMPARISON;
            putWaiting(compares ? strength + 1 : strength);
            // one comparison to a C: a second one in it can't stand
            if (compares && waits > 0 && strengthOf(waiting[waits - 1]) == COMPARISON) {
                return fail(CANT_STAND);
            }
            operandDue = true;
            notMayStand = kind == Scanner.AND || kind == Scanner.OR;
            hold(kind);
            return countKnot();
        }

        private boolean countKnot() {
            counted++;
            return counted <= Laws.KNOTS_MOST || fail(TOO_MUCH);
        }

        private void hold(int kind) {
            if (waits < waiting.length) {
                waiting[waits] = kind;
                waits++;
            }
        }

        /** Puts the waiting signs of at least a strength (1 up), the latest first, down to an open '('. */
        private void putWaiting(int strength) {
            while (waits > 0 && strengthOf(waiting[waits - 1]) >= strength) {
                waits--;
                draft.laws.put(waiting[waits], 0);
            }
        }

        /** How tight a sign binds; 0 of what is none, a '(' too. */
        private static int strengthOf(int kind) {
            switch (kind) {
                case Scanner.OR:
                    return 1;
                case Scanner.AND:
                    return 2;
                case Scanner.NOT:
                    return 3;
                case Scanner.LESS:
                case Scanner.AT_MOST:
                case Scanner.EQUAL:
                case Scanner.UNLIKE:
                case Scanner.AT_LEAST:
                case Scanner.MORE:
                    return COMPARISON;
                case Scanner.PLUS:
                case Scanner.MINUS:
                    return 5;
                case Scanner.TIMES:
                case Scanner.OVER:
                    return 6;
                default:
                    return 0;
            }
        }
    }

    /** How THINGS and LAMPS do today: as the TEXT told, or otherwise where something is tried. */
    private static final class Ways {
        final int[] comes = new int[MOST];
        final int[] how = new int[MOST];
        final int[] reach = new int[MOST];
        int rule;

        void follow(Told told) {
            System.arraycopy(told.comes, 0, comes, 0, MOST);
            System.arraycopy(told.how, 0, how, 0, MOST);
            System.arraycopy(told.reach, 0, reach, 0, MOST);
            rule = told.rule;
        }

        void reachAll() {
            for (int lamp = 0; lamp < MOST; lamp++) {
                reach[lamp] = PLACE_MOST;
            }
        }

        void cheerAll() {
            for (int thing = 0; thing < MOST; thing++) {
                if (how[thing] == SHY) {
                    how[thing] = 0;
                }
            }
        }
    }

    /** All that days and calls change: who has what, the WALL, the LAMPS' places and turns, MEETINGS, the DAY, the last number. */
    private static final class Scene {
        int things;
        final int[] has = new int[MOST];
        final int[] row = new int[MOST];
        int rowLength;
        final int[] hung = new int[MOST];
        final int[] order = new int[MOST];
        int lit;
        final int[] first = new int[MEETINGS_MOST];
        final int[] second = new int[MEETINGS_MOST];
        int meetings;
        int day;
        int number;

        void begin(Told told) {
            things = told.things;
            rowLength = 0;
            lit = told.lamps;
            for (int i = 0; i < MOST; i++) {
                has[i] = i;
                order[i] = i;
                hung[i] = told.hung[i];
            }
            meetings = told.meetings;
            System.arraycopy(told.first, 0, first, 0, MEETINGS_MOST);
            System.arraycopy(told.second, 0, second, 0, MEETINGS_MOST);
            day = 0;
            number = told.seed;
        }

        void copyFrom(Scene other) {
            things = other.things;
            System.arraycopy(other.has, 0, has, 0, MOST);
            System.arraycopy(other.row, 0, row, 0, MOST);
            rowLength = other.rowLength;
            System.arraycopy(other.hung, 0, hung, 0, MOST);
            System.arraycopy(other.order, 0, order, 0, MOST);
            lit = other.lit;
            System.arraycopy(other.first, 0, first, 0, MEETINGS_MOST);
            System.arraycopy(other.second, 0, second, 0, MEETINGS_MOST);
            meetings = other.meetings;
            day = other.day;
            number = other.number;
        }

        int countOwn() {
            int sum = 0;
            for (int thing = 0; thing < things; thing++) {
                if (has[thing] == thing) {
                    sum++;
                }
            }
            return sum;
        }

        void exchange(int one, int other) {
            int had = has[one];
            has[one] = has[other];
            has[other] = had;
        }

        /** Brings what a THING has behind the row. */
        void bringToWall(int thing) {
            if (rowLength < MOST) {
                row[rowLength] = has[thing];
                rowLength++;
            }
            has[thing] = NONE;
        }

        int takeFromWall(int k) {
            if (k < 0 || k >= rowLength) {
                return NONE;
            }
            int shadow = row[k];
            rowLength--;
            for (int i = k; i < rowLength; i++) {
                row[i] = row[i + 1];
            }
            return shadow;
        }

        int turnOf(int lamp) {
            for (int i = 0; i < lit; i++) {
                if (order[i] == lamp) {
                    return i;
                }
            }
            return NONE;
        }

        void exchangeTurns(int one, int other) {
            int turn = turnOf(one);
            int otherTurn = turnOf(other);
            if (turn != NONE && otherTurn != NONE) {
                order[turn] = other;
                order[otherTurn] = one;
            }
        }

        void takeDown(int lamp) {
            int turn = turnOf(lamp);
            if (turn == NONE) {
                return;
            }
            lit--;
            for (int i = turn; i < lit; i++) {
                order[i] = order[i + 1];
            }
        }

        int findMeeting(int one, int other) {
            return findPair(first, second, meetings, one, other);
        }

        void addMeeting(int at, int one, int other) {
            if (at < 0 || at > meetings || meetings >= MEETINGS_MOST) {
                return;
            }
            for (int i = meetings; i > at; i--) {
                first[i] = first[i - 1];
                second[i] = second[i - 1];
            }
            first[at] = one;
            second[at] = other;
            meetings++;
        }

        void removeMeeting(int at) {
            if (at < 0 || at >= meetings) {
                return;
            }
            meetings--;
            for (int i = at; i < meetings; i++) {
                first[i] = first[i + 1];
                second[i] = second[i + 1];
            }
        }

        /** If more of the two would have their own so, they swap what they have. */
        void swapIfMoreOwn(int one, int other) {
            int kept = (has[one] == one ? 1 : 0) + (has[other] == other ? 1 : 0);
            int swapped = (has[other] == one ? 1 : 0) + (has[one] == other ? 1 : 0);
            if (swapped > kept) {
                exchange(one, other);
            }
        }
    }

    /** Lets DAYS go by over a scene. */
    private static final class Day {
        private static final int COMES = 1;
        private static final int FAR = 2;
        private static final int OWN = 3;
        private static final int KIND = 4;
        private static final int DAY = 5;
        private static final int WHICH = 6;
        private static final int PRICE_MOST = 999;

        final Told told = new Told();
        final Ways ways = new Ways();
        private final long[] late = new long[MOST];
        private final long[] near = new long[MOST * MOST];

        /** A DAY as it goes. */
        void pass(Scene scene) {
            gather(scene);
            measure(scene, 0, told.lamps);
            finish(scene);
        }

        void passInFog(Scene scene) {
            gather(scene);
            meetAtNoon(scene);
            scene.day++;
        }

        void passByNumbers(Scene scene) {
            if (told.fog > 0 && draw(scene) % 100 < told.fog) {
                passInFog(scene);
            } else {
                pass(scene);
            }
        }

        private static int draw(Scene scene) {
            scene.number = (int) (scene.number * 1103515245L + 12345L & 0x7fffffffL);
            return scene.number / 65536;
        }

        /** Dusk: what is had goes to the WALL. */
        void gather(Scene scene) {
            // all are asked ahead of the first that goes, as E looks at what they have
            for (int thing = 0; thing < told.things; thing++) {
                long asked = worth(scene, LATE, thing);
                late[thing] = asked == Long.MIN_VALUE ? ways.comes[thing] : asked;
            }
            for (int i = 0; i < told.things; i++) {
                int next = NONE;
                for (int thing = 0; thing < told.things; thing++) {
                    if (scene.has[thing] != NONE && (next == NONE || late[thing] < late[next])) {
                        next = thing;
                    }
                }
                if (next != NONE) {
                    scene.bringToWall(next);
                }
            }
        }

        /** Asks E of near of all THINGS and some LAMPS; it stays as it is while LAMPS give, as those who wait have nothing. */
        void measure(Scene scene, int from, int to) {
            for (int lamp = from; lamp < to; lamp++) {
                for (int thing = 0; thing < told.things; thing++) {
                    long asked = nearWorth(scene, thing, lamp);
                    near[lamp * MOST + thing] = asked == Long.MIN_VALUE ? farness(scene, thing, lamp) : asked;
                }
            }
        }

        /** The LAMPS, the THIEVES and noon, behind gather() and measure(). */
        void finish(Scene scene) {
            for (int turn = 0; turn < scene.lit; turn++) {
                light(scene, scene.order[turn]);
            }
            for (int thing = 0; thing < told.things; thing++) {
                if (ways.how[thing] == THIEF && scene.has[thing] == NONE) {
                    scene.has[thing] = scene.takeFromWall(greatest(scene));
                }
            }
            meetAtNoon(scene);
            scene.day++;
        }

        private void light(Scene scene, int lamp) {
            for (int i = 0; i < told.things && scene.rowLength > 0; i++) {
                int thing = nextAt(scene, lamp);
                if (thing == NONE) {
                    return;
                }
                scene.has[thing] = scene.takeFromWall(choose(scene, thing));
            }
        }

        private int nextAt(Scene scene, int lamp) {
            int next = NONE;
            int from = lamp * MOST;
            for (int thing = 0; thing < told.things; thing++) {
                boolean waits = scene.has[thing] == NONE && ways.how[thing] == 0;
                if (waits && farness(scene, thing, lamp) <= ways.reach[lamp]
                        && (next == NONE || near[from + thing] < near[from + next])) {
                    next = thing;
                }
            }
            return next;
        }

        /** The how-manieth of the row a THING gets by the rule. */
        private int choose(Scene scene, int thing) {
            if (ways.rule == QUEUE) {
                return 0;
            }
            if (ways.rule == STACK) {
                return scene.rowLength - 1;
            }
            int fittest = 0;
            int least = Integer.MAX_VALUE;
            for (int i = 0; i < scene.rowLength; i++) {
                int apart = Math.abs(told.sizeOf(scene.row[i]) - told.size[thing]);
                if (apart < least) {
                    least = apart;
                    fittest = i;
                }
            }
            return fittest;
        }

        private int greatest(Scene scene) {
            int greatest = 0;
            for (int i = 1; i < scene.rowLength; i++) {
                if (told.sizeOf(scene.row[i]) > told.sizeOf(scene.row[greatest])) {
                    greatest = i;
                }
            }
            return greatest;
        }

        private static void meetAtNoon(Scene scene) {
            for (int i = 0; i < scene.meetings; i++) {
                scene.swapIfMoreOwn(scene.first[i], scene.second[i]);
            }
        }

        private int farness(Scene scene, int thing, int lamp) {
            return Math.abs(told.place[thing] - scene.hung[lamp]);
        }

        /** E of late or of price; Long.MIN_VALUE with an ERROR or without. */
        long worth(Scene scene, int law, int thing) {
            if (!told.laws.isTold(law)) {
                return Long.MIN_VALUE;
            }
            nameAll(scene, thing, told.sizeOf(scene.has[thing]));
            return told.laws.work(law);
        }

        /** E of near; Long.MIN_VALUE with an ERROR or without. */
        long nearWorth(Scene scene, int thing, int lamp) {
            if (!told.laws.isTold(NEAR)) {
                return Long.MIN_VALUE;
            }
            nameAll(scene, thing, told.size[thing]);
            told.laws.names[FAR] = farness(scene, thing, lamp);
            told.laws.names[WHICH] = lamp;
            return told.laws.work(NEAR);
        }

        private void nameAll(Scene scene, int thing, int size) {
            long[] names = told.laws.names;
            names[0] = size;
            names[COMES] = ways.comes[thing];
            names[FAR] = 0;
            names[OWN] = scene.has[thing] == thing ? 1 : 0;
            names[KIND] = ways.how[thing];
            names[DAY] = scene.day;
            names[WHICH] = 0;
        }

        int priceOf(Scene scene, int thing) {
            long asked = worth(scene, PRICE, thing);
            if (asked == Long.MIN_VALUE) {
                return told.sizeOf(scene.has[thing]);
            }
            return (int) Math.max(0L, Math.min((long) PRICE_MOST, asked));
        }
    }

    /** Tries today over and over: ORDERS of LAMPS, places to hang one, two who choose when to come. */
    private static final class Finder {
        private static final int ORDERS_MOST = 120;
        private static final int CHOICES = 5;

        final Day day = new Day();
        private final Told told = day.told;
        private final Ways ways = day.ways;
        private final Scene start = new Scene();
        private final Scene trial = new Scene();
        private final int[] order = new int[MOST];
        private final int[] found = new int[MOST];
        int hangLamp;
        int hangPlace;
        int hangOwn;
        private final int[] gains = new int[CHOICES * CHOICES];
        private final int[] otherGains = new int[CHOICES * CHOICES];
        private final int[] restList = new int[CHOICES * CHOICES];

        /** What is the same by every ORDER: dusk, and E of near. */
        private void prepare(Scene now) {
            start.copyFrom(now);
            day.gather(start);
            day.measure(start, 0, told.lamps);
            for (int i = 0; i < MOST; i++) {
                order[i] = i;
            }
        }

        private void tryOrder() {
            trial.copyFrom(start);
            System.arraycopy(order, 0, trial.order, 0, MOST);
            day.finish(trial);
        }

        /** OWN by the BEST ORDER, which is found then. */
        int findBestOrder(Scene now) {
            prepare(now);
            int most = NONE;
            boolean more = true;
            for (int i = 0; i < ORDERS_MOST && more; i++) {
                tryOrder();
                int owned = trial.countOwn();
                if (owned > most) {
                    most = owned;
                    System.arraycopy(order, 0, found, 0, MOST);
                }
                more = goToNextOrder();
            }
            return most;
        }

        boolean findGivingOrder(Scene now, int thing, int shadow) {
            prepare(now);
            boolean more = true;
            for (int i = 0; i < ORDERS_MOST && more; i++) {
                tryOrder();
                if (trial.has[thing] == shadow) {
                    System.arraycopy(order, 0, found, 0, MOST);
                    return true;
                }
                more = goToNextOrder();
            }
            return false;
        }

        int lampFound(int turn) {
            return turn >= 0 && turn < told.lamps ? found[turn] : NO_SUCH_MANY;
        }

        private boolean goToNextOrder() {
            int last = told.lamps - 1;
            int i = last - 1;
            while (i >= 0 && order[i] > order[i + 1]) {
                i--;
            }
            if (i < 0) {
                return false;
            }
            int j = last;
            while (j > i + 1 && order[j] < order[i]) {
                j--;
            }
            exchangeInOrder(i, j);
            int low = i + 1;
            for (int high = last; low < high; high--) {
                exchangeInOrder(low, high);
                low++;
            }
            return true;
        }

        private void exchangeInOrder(int i, int j) {
            int lamp = order[i];
            order[i] = order[j];
            order[j] = lamp;
        }

        boolean findHang(Scene now) {
            prepare(now);
            trial.copyFrom(start);
            day.finish(trial);
            int asItGoes = trial.countOwn();
            hangOwn = asItGoes;
            for (int lamp = 0; lamp < told.lamps; lamp++) {
                for (int place = 0; place <= PLACE_MOST; place++) {
                    tryHang(lamp, place);
                }
                day.measure(start, lamp, lamp + 1);
            }
            return hangOwn > asItGoes;
        }

        private void tryHang(int lamp, int place) {
            trial.copyFrom(start);
            trial.hung[lamp] = place;
            day.measure(trial, lamp, lamp + 1);
            day.finish(trial);
            int owned = trial.countOwn();
            if (owned > hangOwn) {
                hangOwn = owned;
                hangLamp = lamp;
                hangPlace = place;
            }
        }

        /** How many RESTS a CHOICE has; they are listed then. */
        int findRests(Scene now, int one, int other) {
            for (int i = 0; i < CHOICES * CHOICES; i++) {
                ways.comes[one] = i / CHOICES;
                ways.comes[other] = i % CHOICES;
                trial.copyFrom(now);
                day.pass(trial);
                gains[i] = told.sizeOf(trial.has[one]);
                otherGains[i] = told.sizeOf(trial.has[other]);
            }
            ways.follow(told);
            int size = 0;
            for (int i = 0; i < CHOICES * CHOICES; i++) {
                if (isRest(i / CHOICES, i % CHOICES)) {
                    restList[size] = i / CHOICES * 10 + i % CHOICES;
                    size++;
                }
            }
            return size;
        }

        private boolean isRest(int one, int other) {
            int at = one * CHOICES + other;
            for (int i = 0; i < CHOICES; i++) {
                if (gains[i * CHOICES + other] > gains[at] || otherGains[one * CHOICES + i] > otherGains[at]) {
                    return false;
                }
            }
            return true;
        }

        int restAt(int k) {
            return k >= 0 && k < restList.length ? restList[k] : NO_SUCH_MANY;
        }
    }

    /** Finds SWAPS: goes from who has what now, nearest first, by MEETINGS in order, so the first way found is the one asked for. */
    private static final class Swapper {
        private static final int STATES_MOST = 120;

        private final int[] states = new int[STATES_MOST];
        private final int[] cameFrom = new int[STATES_MOST];
        private final int[] cameBy = new int[STATES_MOST];
        private final int[] way = new int[STATES_MOST];
        private int size;

        int find(Scene scene) {
            int goal = goalOf(scene);
            states[0] = stateOf(scene);
            cameFrom[0] = NONE;
            size = 1;
            for (int k = 0; k < size && k < STATES_MOST; k++) {
                if (states[k] == goal) {
                    return traceBack(k);
                }
                for (int meeting = 0; meeting < scene.meetings; meeting++) {
                    reach(swapped(states[k], scene.first[meeting], scene.second[meeting]), k, meeting);
                }
            }
            return NO_SUCH_MANY;
        }

        /** Three bits to a THING: the number of the SHADOW it has and one, or 0. */
        private static int stateOf(Scene scene) {
            int state = 0;
            for (int thing = 0; thing < scene.things; thing++) {
                state |= scene.has[thing] + 1 << 3 * thing;
            }
            return state;
        }

        /** Swaps neither bring nor take a SHADOW: each that is had now must be its own THING's in the end. */
        private static int goalOf(Scene scene) {
            int state = 0;
            for (int thing = 0; thing < scene.things; thing++) {
                int shadow = scene.has[thing];
                if (shadow != NONE) {
                    state |= shadow + 1 << 3 * shadow;
                }
            }
            return state;
        }

        private static int swapped(int state, int one, int other) {
            int unlike = (state >> 3 * one ^ state >> 3 * other) & 7;
            return state ^ unlike << 3 * one ^ unlike << 3 * other;
        }

        private void reach(int state, int from, int meeting) {
            for (int i = 0; i < size; i++) {
                if (states[i] == state) {
                    return;
                }
            }
            if (size < STATES_MOST) {
                states[size] = state;
                cameFrom[size] = from;
                cameBy[size] = meeting;
                size++;
            }
        }

        private int traceBack(int end) {
            int length = 0;
            for (int k = end; k > 0 && length < STATES_MOST; k = cameFrom[k]) {
                length++;
            }
            int left = length;
            for (int k = end; k > 0 && left > 0; k = cameFrom[k]) {
                left--;
                way[left] = cameBy[k];
            }
            return length;
        }

        int pairOf(Scene scene, int k) {
            if (k < 0 || k >= way.length || way[k] >= scene.meetings) {
                return NO_SUCH_MANY;
            }
            int one = scene.first[way[k]];
            int other = scene.second[way[k]];
            return 10 * Math.min(one, other) + Math.max(one, other);
        }
    }

    /** What was SEEN, STRIKES among it. */
    private static final class Memory {
        static final int DAYS_MOST = 20;
        /** In place of days: this is a STRIKE. */
        static final int STRIKE = 0;
        static final int ALL = -1;
        private static final int SEEN_MOST = 24;

        private final int[] days = new int[SEEN_MOST];
        private final int[] things = new int[SEEN_MOST];
        /** The LOOK that was SEEN; of a STRIKE the number of what it strikes. */
        private final int[] whats = new int[SEEN_MOST];
        private final boolean[] struck = new boolean[SEEN_MOST];
        int size;
        int by = ALL;

        void clear() {
            size = 0;
            by = ALL;
        }

        int add(int behind, int thing, int what) {
            if (size >= SEEN_MOST) {
                return NONE;
            }
            days[size] = behind;
            things[size] = thing;
            whats[size] = what;
            size++;
            return size - 1;
        }

        int countBy() {
            return by == ALL ? size : by;
        }

        /** Marks what is STRUCK, from the last one on, since only a STRIKE behind it can strike a STRIKE. */
        void judge() {
            for (int i = 0; i < SEEN_MOST; i++) {
                struck[i] = false;
            }
            for (int i = countBy() - 1; i >= 0; i--) {
                if (days[i] == STRIKE && !struck[i]) {
                    struck[whats[i]] = true;
                }
            }
        }

        private boolean isKnown(int i) {
            return days[i] != STRIKE && !struck[i];
        }

        /** The last DAY that something KNOWN tells of. */
        int lastDay() {
            int last = 0;
            for (int i = 0; i < countBy(); i++) {
                if (isKnown(i)) {
                    last = Math.max(last, days[i]);
                }
            }
            return last;
        }

        /** Whether all that is KNOWN of so many DAYS is so in a scene. */
        boolean agrees(int behind, Scene scene, Told told) {
            for (int i = 0; i < countBy(); i++) {
                if (isKnown(i) && days[i] == behind) {
                    int shadow = scene.has[things[i]];
                    if (shadow == NONE || told.looks[shadow] != whats[i]) {
                        return false;
                    }
                }
            }
            return true;
        }
    }

    /** What can be undone. */
    private static final class Deeds {
        static final int HUNG = 0;
        static final int TURNED = 1;
        static final int TRADED = 2;
        static final int MET = 3;
        static final int PARTED = 4;
        private static final int DEEDS_MOST = 20;

        private final int[] kinds = new int[DEEDS_MOST];
        private final int[] ones = new int[DEEDS_MOST];
        private final int[] others = new int[DEEDS_MOST];
        private final int[] places = new int[DEEDS_MOST];
        int size;

        void clear() {
            size = 0;
        }

        void add(int kind, int one, int other, int place) {
            if (size >= DEEDS_MOST) {
                forgetOldest();
            }
            kinds[size] = kind;
            ones[size] = one;
            others[size] = other;
            places[size] = place;
            size++;
        }

        private void forgetOldest() {
            size = DEEDS_MOST - 1;
            System.arraycopy(kinds, 1, kinds, 0, size);
            System.arraycopy(ones, 1, ones, 0, size);
            System.arraycopy(others, 1, others, 0, size);
            System.arraycopy(places, 1, places, 0, size);
        }

        void reverse(int k, Scene scene) {
            switch (kinds[k]) {
                case HUNG:
                    scene.hung[ones[k]] = others[k];
                    break;
                case TURNED:
                    scene.exchangeTurns(ones[k], others[k]);
                    break;
                case TRADED:
                    scene.exchange(ones[k], others[k]);
                    break;
                case MET:
                    scene.removeMeeting(places[k]);
                    break;
                default:
                    scene.addMeeting(places[k], ones[k], others[k]);
                    break;
            }
        }
    }
}
