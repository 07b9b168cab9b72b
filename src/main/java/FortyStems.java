/**
 * Forty stems in one hand, as ../shared/DOC.md promises it. Words in capitals in the comments are
 * the document's own.
 */
public final class FortyStems {
    public static final int NONE = -1, BAD = -2, STATE = -3, FULL = -4;
    public static final long NO = -4611686018427387904L;

    private static final int NOTHING = -11, OUTSIDE = -12, OTHER_SORT = -13, BELOW_ZERO = -14;
    private static final int NO_SUCH_PART = -100000;
    private static final int FAULT_AHEAD = -100;

    private static final int MOST_FLOWERS = 6, MOST_STEMS = 40, MOST_TEXTS = 6, MOST_BYTES = 160;
    private static final int MOST_HAND = 400, MOST_NUMBER = 9, MOST_COLOUR = 4, MOST_BUCKET = 40;
    private static final int KINDS = 6, COLOURS = 5, ANGLES = 16, QUARTERS = 4;
    private static final int MOST_DAY = 99, MOST_MONEY = 9999, MOST_TOLD = 20, MOST_ORDERED = 6;
    private static final int MOST_SEEDS = 20, MOST_FEW = 999, DRAWS_OF_A_SEED = 20;

    private final Hand now = new Hand();
    private final Hand kept = new Hand();
    private boolean isKept = false;
    private final Tape tape = new Tape();
    private final Texts texts = new Texts();
    private final Reader reader = new Reader(tape);
    private final Moment moment = new Moment(texts);
    private final Trial trial = new Trial(now, moment);
    private final Orders orders = new Orders(trial);
    private final Sheets sheets = new Sheets();

    public FortyStems() {
    }

    // ---- the hand, flowers

    public int set(int what, int of, int v) {
        if (v < 0 || v > mostOf(what)) {
            return BAD;
        }
        if (what >= 2 && !now.hasFlower(of)) {
            return BAD;
        }
        int was = now.settingOf(what, of);
        now.change(what, of, v);
        return was;
    }

    /** Below 0 where there is no such setting, so that no v fits. */
    private static int mostOf(int what) {
        switch (what) {
            case 0: return MOST_HAND;
            case 1: return ANGLES - 1;
            case 2: return MOST_NUMBER;
            case 3: return MOST_COLOUR;
            case 4: return MOST_BUCKET;
            default: return NONE;
        }
    }

    public int flower(int kind, int number) {
        return now.addFlower(kind, number);
    }

    public int told(int of, int what) {
        if (what == 0 || what == 1) {
            return now.settingOf(what, of);
        }
        if (what < 0 || what > 9 || !now.hasFlower(of)) {
            return BAD;
        }
        moment.asNow(now, of);
        switch (what) {
            case 5: return now.kinds[of];
            case 6: return moment.thick();
            case 7: return moment.turns();
            case 8: return moment.costs();
            case 9: return moment.lasts();
            default: return now.settingOf(what, of);
        }
    }

    // ---- texts

    public int feed(int letter) {
        if (letter < 0 || letter > 255) {
            return BAD;
        }
        return tape.add(letter) ? tape.size : FULL;
    }

    public int text() {
        if (texts.isFull()) {
            return FULL;
        }
        int fault = reader.readTape();
        tape.clear();
        return fault == NONE ? texts.add(reader) : FAULT_AHEAD - fault;
    }

    public int force(int text) {
        if (!texts.has(text)) {
            return BAD;
        }
        int was = now.rule;
        now.rule = text;
        return was;
    }

    // ---- the bunch

    public int lay(int flower) {
        if (!now.hasFlower(flower)) {
            return BAD;
        }
        if (now.buckets[flower] < 1) {
            return STATE;
        }
        trial.start();
        if (!trial.canBe(flower)) {
            return FULL;
        }
        int angle = trial.angleOf(flower);
        now.addStem(flower, angle);
        return angle;
    }

    public int draw(int stem) {
        return now.hasStem(stem) ? now.removeStem(stem) : BAD;
    }

    public int stem(int stem, int what) {
        if (!now.hasStem(stem) || what < 0 || what > 1) {
            return BAD;
        }
        return what == 0 ? now.stemFlowers[stem] : now.stemAngles[stem];
    }

    public int bunch(int what) {
        if (what >= 4 && what < 4 + QUARTERS) {
            return now.stemsInQuarter(what - 4);
        }
        if (what >= 10 && what < 10 + COLOURS) {
            return now.stemsOfColour(what - 10);
        }
        switch (what) {
            case 0: return touchingNow();
            case 1: return unevenness();
            case 2: return costOfAll();
            case 3: return now.roomLeft();
            default: return NO_SUCH_PART;
        }
    }

    private int touchingNow() {
        trial.start();
        return trial.touching;
    }

    private int unevenness() {
        int most = 0;
        int fewest = MOST_STEMS;
        for (int q = 0; q < QUARTERS; q++) {
            int stems = now.stemsInQuarter(q);
            most = Math.max(most, stems);
            fewest = Math.min(fewest, stems);
        }
        return most - fewest;
    }

    private int costOfAll() {
        int sum = 0;
        for (int f = 0; f < now.flowers; f++) {
            moment.asNow(now, f);
            sum += moment.costs() * now.stemsOf(f);
        }
        return sum;
    }

    public int good(int day) {
        if (day < 0 || day > MOST_DAY) {
            return BAD;
        }
        int sum = 0;
        for (int f = 0; f < now.flowers; f++) {
            moment.asNow(now, f);
            if (moment.lasts() >= day) {
                sum += now.stemsOf(f);
            }
        }
        return sum;
    }

    // ---- what would be best

    public int next(int what) {
        if (what < 0 || what > 1) {
            return BAD;
        }
        trial.start();
        int best = NONE;
        int fewest = trial.touching;
        for (int f = 0; f < now.flowers; f++) {
            if (trial.canBe(f)) {
                int touching = trial.touchingWith(f);
                if (best == NONE || touching < fewest) {
                    best = f;
                    fewest = touching;
                }
            }
        }
        return what == 0 ? best : fewest;
    }

    public int howMany(int flower) {
        if (!now.hasFlower(flower)) {
            return BAD;
        }
        trial.start();
        int laid = 0;
        for (int i = 0; i < MOST_STEMS && trial.canBe(flower); i++) {
            trial.put(flower);
            laid++;
        }
        return laid;
    }

    public int order(int sheet, int what) {
        if (!Sheets.isNumber(sheet) || what < 0 || what > 1) {
            return BAD;
        }
        if (sheets.isMissing(sheet)) {
            return NOTHING;
        }
        int size = sheets.sizes[sheet];
        if (size < 1 || size > MOST_ORDERED) {
            return BAD;
        }
        for (int i = 0; i < size; i++) {
            if (!now.hasFlower(sheets.itemAt(sheet, i))) {
                return BAD;
            }
        }
        trial.start();
        orders.start(sheets.items[sheet], size);
        orders.search(0, 0, 0);
        return what == 0 ? orders.fewest : orders.bestDigits;
    }

    public int forMoney(int k) {
        if (k < 0 || k > MOST_MONEY) {
            return BAD;
        }
        int money = k;
        int stems = 0;
        int bought = 0;
        for (int i = 0; i < now.flowers; i++) {
            int f = cheapestBut(bought);
            if (f == NONE) {
                break;
            }
            bought |= 1 << f;
            moment.asNow(now, f);
            int costs = moment.costs();
            int many = costs > 0 ? Math.min(now.buckets[f], money / costs) : now.buckets[f];
            stems += many;
            money -= many * costs;
        }
        return stems;
    }

    private int cheapestBut(int bought) {
        int cheapest = NONE;
        int least = 0;
        for (int f = 0; f < now.flowers; f++) {
            moment.asNow(now, f);
            int costs = moment.costs();
            if ((bought >> f & 1) == 0 && (cheapest == NONE || costs < least)) {
                cheapest = f;
                least = costs;
            }
        }
        return cheapest;
    }

    public int worst(int what) {
        if (what < 0 || what > 1) {
            return BAD;
        }
        trial.start();
        int worst = NONE;
        int most = 0;
        for (int s = 0; s < now.stems; s++) {
            int touched = trial.touchedBy(s);
            if (touched > most) {
                worst = s;
                most = touched;
            }
        }
        return what == 0 ? worst : trial.touching - most;
    }

    // ---- angles that were told

    public int tells(int sheet, int flower, int what) {
        if (!Sheets.isNumber(sheet) || !now.hasFlower(flower) || what < 0 || what > 5) {
            return BAD;
        }
        if (sheets.isMissing(sheet)) {
            return NOTHING;
        }
        if (sheets.sizes[sheet] > MOST_TOLD) {
            return BAD;
        }
        if (what == 0) {
            moment.inEmptyHand(now, flower);
            return firstOtherwise(sheet);
        }
        return agreeing(sheet, flower, what);
    }

    private int agreeing(int sheet, int flower, int what) {
        int bits = 0;
        int choices = choicesOf(what);
        for (int v = 0; v < choices; v++) {
            moment.inEmptyHand(now, flower);
            moment.suppose(what, v);
            if (firstOtherwise(sheet) == NONE) {
                bits |= 1 << v;
            }
        }
        return bits;
    }

    private int choicesOf(int what) {
        switch (what) {
            case 1: return KINDS;
            case 2: return MOST_NUMBER + 1;
            case 3: return COLOURS;
            case 4: return ANGLES;
            case 5: return texts.size;
            default: return 0;
        }
    }

    /** Lays from the moment on, so this has to be made ready ahead of each call. */
    private int firstOtherwise(int sheet) {
        int size = sheets.sizes[sheet];
        for (int i = 0; i < size; i++) {
            if (moment.layOne() != sheets.itemAt(sheet, i)) {
                return i;
            }
        }
        return NONE;
    }

    public int film(int sheet, int flower, int n) {
        if (!Sheets.isNumber(sheet) || !now.hasFlower(flower) || n < 0 || n > MOST_TOLD) {
            return BAD;
        }
        sheets.become(sheet, Sheets.BYTES, n);
        moment.inEmptyHand(now, flower);
        for (int i = 0; i < n; i++) {
            sheets.write(sheet, i, moment.layOne());
        }
        return n;
    }

    public int drawn(int seed, int n) {
        if (n < 0 || n > MOST_STEMS) {
            return BAD;
        }
        return now.flowers == 0 ? STATE : touchingDrawn(seed, n);
    }

    private int touchingDrawn(int seed, int n) {
        trial.start();
        int flowers = now.flowers;
        int z = seed;
        for (int i = 0; i < n && flowers > 0; i++) {
            z = z * 1103515245 + 12345;
            int f = (z >>> 9) % flowers;
            if (trial.canBe(f)) {
                trial.put(f);
            }
        }
        return trial.touching;
    }

    public long chance(int seed, int m, int k, int part) {
        if (m < 1 || m > MOST_SEEDS || k < 0 || k > MOST_FEW || part < 0 || part > 1) {
            return NO;
        }
        if (now.flowers == 0) {
            return NO;
        }
        int few = 0;
        for (int i = 0; i < m; i++) {
            if (touchingDrawn(seed + i, DRAWS_OF_A_SEED) <= k) {
                few++;
            }
        }
        int common = commonDivisor(few, m);
        if (common == 0) {
            return NO;
        }
        return part == 0 ? few / common : m / common;
    }

    /** The greatest by which both can be divided; b itself where a is 0. */
    private static int commonDivisor(int a, int b) {
        for (int d = b; d > 1; d--) {
            if (a % d == 0 && b % d == 0) {
                return d;
            }
        }
        return 1;
    }

    public int image() {
        kept.become(now);
        isKept = true;
        return now.flowers;
    }

    public int back() {
        if (!isKept) {
            return STATE;
        }
        now.become(kept);
        return now.flowers;
    }

    public int count(int what) {
        switch (what) {
            case 0: return now.flowers;
            case 1: return now.stems;
            case 2: return now.inAllBuckets();
            case 3: return texts.size;
            case 4: return tape.size;
            case 5: return now.rule;
            default: return BAD;
        }
    }

    // ---- the host

    public int sheet(int sheet, int sort, int n) {
        if (!Sheets.isNumber(sheet)) {
            return BAD;
        }
        if (sort == Sheets.MISSING) {
            sheets.become(sheet, sort, 0);
            return 1;
        }
        if (!Sheets.isSort(sort) || n > Sheets.MOST_ITEMS) {
            return BAD;
        }
        if (n < 0) {
            return BELOW_ZERO;
        }
        sheets.become(sheet, sort, n);
        return 1;
    }

    public int cell(int sheet, int i, int v) {
        if (!Sheets.isNumber(sheet)) {
            return BAD;
        }
        if (sheets.isMissing(sheet)) {
            return NOTHING;
        }
        if (!sheets.hasItem(sheet, i)) {
            return OUTSIDE;
        }
        sheets.write(sheet, i, v);
        return 1;
    }

    public int copy(int sheet, int i, int other, int j, int n) {
        if (!Sheets.isNumber(sheet) || !Sheets.isNumber(other)) {
            return BAD;
        }
        if (sheets.isMissing(sheet) || sheets.isMissing(other)) {
            return NOTHING;
        }
        if (sheets.sorts[sheet] != sheets.sorts[other]) {
            return OTHER_SORT;
        }
        if (!sheets.hasItems(sheet, i, n) || !sheets.hasItems(other, j, n)) {
            return OUTSIDE;
        }
        // arraycopy reads all ahead of writing, also where both are one row
        System.arraycopy(sheets.items[sheet], i, sheets.items[other], j, n);
        return n;
    }

    public int flowers(int sheet, int sort, int from, int n) {
        if (!Sheets.isNumber(sheet) || !Sheets.isSort(sort) || n < 0 || n > MOST_FLOWERS) {
            return BAD;
        }
        // a missing SHEET is of no sort at all, so it can't be of another one
        if (sheets.isMissing(sheet)) {
            return NOTHING;
        }
        if (sheets.sorts[sheet] != sort) {
            return OTHER_SORT;
        }
        int came = 0;
        for (int i = 0; i < n; i++) {
            int place = from + 2 * i;
            if (!sheets.hasItems(sheet, place, 2)) {
                return OUTSIDE;
            }
            int kind = sheets.itemAt(sheet, place);
            int number = sheets.itemAt(sheet, place + 1);
            if (now.addFlower(kind, number) >= 0) {
                came++;
            }
        }
        return came;
    }

    public int taken(int flower, int k) {
        if (!Kind.isKind(k)) {
            return BAD;
        }
        if (!now.hasFlower(flower)) {
            return NOTHING;
        }
        return Kind.isUnder(now.kinds[flower], k) ? now.numbers[flower] : OTHER_SORT;
    }

    /** What each KIND does with what THE RULE tells. */
    private static final class Kind {
        private static final int FLOWER = 0, ROSE = 1, GREEN = 2, TULIP = 3, FERN = 4, POPPY = 5;
        private static final int[] UNDER = {NONE, FLOWER, FLOWER, ROSE, GREEN, FLOWER};

        private static boolean isKind(int kind) {
            return kind >= 0 && kind < KINDS;
        }

        private static boolean isUnder(int kind, int k) {
            int up = kind;
            for (int i = 0; i < KINDS && isKind(up); i++) {
                if (up == k) {
                    return true;
                }
                up = UNDER[up];
            }
            return false;
        }

        private static int thick(int kind, int number) {
            switch (kind) {
                case ROSE: return 3 + number;
                case TULIP: return (3 + number) / 2;
                case GREEN:
                case FERN: return 1;
                case POPPY: return 2 + number / 2;
                default: return 3;
            }
        }

        private static int turns(int kind, int v) {
            switch (kind) {
                case ROSE:
                case TULIP: return v + 1;
                case FERN: return 2 * v;
                case POPPY: return -v;
                default: return v;
            }
        }

        private static int costs(int kind, int number, int v) {
            switch (kind) {
                case ROSE: return 2 * v;
                case TULIP: return Math.max(0, 2 * v - number);
                case GREEN:
                case FERN: return v / 2;
                default: return v;
            }
        }

        private static int lasts(int kind, int number, int v) {
            switch (kind) {
                case GREEN: return 2 * v;
                case TULIP: return v + 1;
                case FERN: return 2 * v + number;
                case POPPY: return 1;
                default: return v;
            }
        }
    }

    /** All that an IMAGE keeps. */
    private static final class Hand {
        private int holds = 200;
        private int begin = 0;
        private int rule = 0;
        private int flowers = 0;
        private final int[] kinds = new int[MOST_FLOWERS];
        private final int[] numbers = new int[MOST_FLOWERS];
        private final int[] colours = new int[MOST_FLOWERS];
        private final int[] buckets = new int[MOST_FLOWERS];
        private int stems = 0;
        private final int[] stemFlowers = new int[MOST_STEMS];
        private final int[] stemAngles = new int[MOST_STEMS];

        private boolean hasFlower(int flower) {
            return flower >= 0 && flower < flowers;
        }

        private boolean hasStem(int stem) {
            return stem >= 0 && stem < stems;
        }

        private int addFlower(int kind, int number) {
            if (!Kind.isKind(kind) || number < 0 || number > MOST_NUMBER) {
                return BAD;
            }
            if (flowers >= MOST_FLOWERS) {
                return FULL;
            }
            kinds[flowers] = kind;
            numbers[flowers] = number;
            colours[flowers] = 0;
            buckets[flowers] = 10;
            flowers++;
            return flowers - 1;
        }

        private int settingOf(int what, int of) {
            if (what == 0) {
                return holds;
            }
            if (what == 1) {
                return begin;
            }
            if (!hasFlower(of)) {
                return BAD;
            }
            switch (what) {
                case 2: return numbers[of];
                case 3: return colours[of];
                case 4: return buckets[of];
                default: return BAD;
            }
        }

        private void change(int what, int of, int v) {
            if (what == 0) {
                holds = v;
            } else if (what == 1) {
                begin = v;
            } else if (hasFlower(of)) {
                switch (what) {
                    case 2: numbers[of] = v; break;
                    case 3: colours[of] = v; break;
                    case 4: buckets[of] = v; break;
                    default: break;
                }
            }
        }

        private void addStem(int flower, int angle) {
            if (stems < MOST_STEMS && hasFlower(flower)) {
                stemFlowers[stems] = flower;
                stemAngles[stems] = angle;
                stems++;
                buckets[flower]--;
            }
        }

        private int removeStem(int stem) {
            if (!hasStem(stem)) {
                return BAD;
            }
            int flower = stemFlowers[stem];
            for (int i = stem; i < stems - 1; i++) {
                stemFlowers[i] = stemFlowers[i + 1];
                stemAngles[i] = stemAngles[i + 1];
            }
            stems--;
            if (hasFlower(flower)) {
                buckets[flower] = Math.min(MOST_BUCKET, buckets[flower] + 1);
            }
            return flower;
        }

        private int lastAngle() {
            return stems > 0 && stems <= MOST_STEMS ? stemAngles[stems - 1] : begin;
        }

        private int roomLeft() {
            int room = holds;
            for (int s = 0; s < stems; s++) {
                room -= thickOf(stemFlowers[s]);
            }
            return room;
        }

        private int thickOf(int flower) {
            return hasFlower(flower) ? Kind.thick(kinds[flower], numbers[flower]) : 0;
        }

        private int colourOf(int flower) {
            return hasFlower(flower) ? colours[flower] : 0;
        }

        private int stemsOf(int flower) {
            int many = 0;
            for (int s = 0; s < stems; s++) {
                if (stemFlowers[s] == flower) {
                    many++;
                }
            }
            return many;
        }

        private int stemsOfColour(int colour) {
            int many = 0;
            for (int s = 0; s < stems; s++) {
                if (colourOf(stemFlowers[s]) == colour) {
                    many++;
                }
            }
            return many;
        }

        private int stemsInQuarter(int quarter) {
            int many = 0;
            for (int s = 0; s < stems; s++) {
                if (stemAngles[s] / 4 == quarter) {
                    many++;
                }
            }
            return many;
        }

        private int inAllBuckets() {
            int many = 0;
            for (int f = 0; f < flowers; f++) {
                many += buckets[f];
            }
            return many;
        }

        private void become(Hand other) {
            holds = other.holds;
            begin = other.begin;
            rule = other.rule;
            flowers = other.flowers;
            stems = other.stems;
            System.arraycopy(other.kinds, 0, kinds, 0, MOST_FLOWERS);
            System.arraycopy(other.numbers, 0, numbers, 0, MOST_FLOWERS);
            System.arraycopy(other.colours, 0, colours, 0, MOST_FLOWERS);
            System.arraycopy(other.buckets, 0, buckets, 0, MOST_FLOWERS);
            System.arraycopy(other.stemFlowers, 0, stemFlowers, 0, MOST_STEMS);
            System.arraycopy(other.stemAngles, 0, stemAngles, 0, MOST_STEMS);
        }
    }

    /** One FLOWER and all that a TEXT can ask about it, truly or in thought. */
    private static final class Moment {
        private static final int STEM = 0, COLOUR = 1, NUMBER = 2, ANGLE = 3, LEFT = 4, ROOM = 5;
        private static final int TURNS = 0, COSTS = 1, LASTS = 2;

        private final Texts texts;
        private int rule = 0;
        private int kind = 0;
        private final int[] names = new int[Texts.NAMES];

        private Moment(Texts texts) {
            this.texts = texts;
        }

        private void asNow(Hand hand, int flower) {
            inEmptyHand(hand, flower);
            names[STEM] = hand.stems;
            names[ANGLE] = hand.lastAngle();
            names[ROOM] = hand.roomLeft();
        }

        private void inEmptyHand(Hand hand, int flower) {
            if (!hand.hasFlower(flower)) {
                return;
            }
            rule = hand.rule;
            kind = hand.kinds[flower];
            names[STEM] = 0;
            names[COLOUR] = hand.colours[flower];
            names[NUMBER] = hand.numbers[flower];
            names[ANGLE] = hand.begin;
            names[LEFT] = hand.buckets[flower];
            names[ROOM] = hand.holds;
        }

        private void asThought(int stems, int angle, int left, int room) {
            names[STEM] = stems;
            names[ANGLE] = angle;
            names[LEFT] = left;
            names[ROOM] = room;
        }

        /** what is as of tells() */
        private void suppose(int what, int v) {
            switch (what) {
                case 1: kind = v; break;
                case 2: names[NUMBER] = v; break;
                case 3: names[COLOUR] = v; break;
                case 4: names[ANGLE] = v; break;
                case 5: rule = v; break;
                default: break;
            }
        }

        /** Whether it CAN BE or not: BUCKET and room may fall below 0. */
        private int layOne() {
            names[ANGLE] = turned(names[ANGLE], turns());
            names[STEM]++;
            names[LEFT]--;
            names[ROOM] -= thick();
            return names[ANGLE];
        }

        private static int turned(int angle, int turns) {
            return Math.floorMod(angle + turns, ANGLES);
        }

        private int thick() {
            return Kind.thick(kind, names[NUMBER]);
        }

        private int turns() {
            return Kind.turns(kind, within(-16, 16, texts.valueOf(rule, TURNS, names)));
        }

        private int costs() {
            int v = within(0, 999, texts.valueOf(rule, COSTS, names));
            return Kind.costs(kind, names[NUMBER], v);
        }

        private int lasts() {
            int v = within(0, 30, texts.valueOf(rule, LASTS, names));
            return Kind.lasts(kind, names[NUMBER], v);
        }

        private static int within(int least, int most, int v) {
            return Math.max(least, Math.min(most, v));
        }
    }

    /** The bunch in thought: it starts as the true one and leaves that as it is. */
    private static final class Trial {
        private final Hand hand;
        private final Moment moment;
        private final int[] left = new int[MOST_FLOWERS];
        // how many STEMS are of a COLOUR at an ANGLE: so TOUCHING needn't be counted anew
        private final int[] lying = new int[COLOURS * ANGLES];
        private int stems = 0;
        private int angle = 0;
        private int room = 0;
        private int touching = 0;

        private Trial(Hand hand, Moment moment) {
            this.hand = hand;
            this.moment = moment;
        }

        private void start() {
            stems = hand.stems;
            angle = hand.lastAngle();
            room = hand.roomLeft();
            touching = 0;
            for (int f = 0; f < hand.flowers; f++) {
                left[f] = hand.buckets[f];
            }
            for (int i = 0; i < lying.length; i++) {
                lying[i] = 0;
            }
            for (int s = 0; s < hand.stems; s++) {
                int colour = hand.colourOf(hand.stemFlowers[s]);
                touching += neighbours(colour, hand.stemAngles[s]);
                change(colour, hand.stemAngles[s], 1);
            }
        }

        private int lyingAt(int colour, int at) {
            int i = colour * ANGLES + Math.floorMod(at, ANGLES);
            return i >= 0 && i < lying.length ? lying[i] : 0;
        }

        private void change(int colour, int at, int by) {
            int i = colour * ANGLES + Math.floorMod(at, ANGLES);
            if (i >= 0 && i < lying.length) {
                lying[i] += by;
            }
        }

        private int neighbours(int colour, int at) {
            return lyingAt(colour, at - 1) + lyingAt(colour, at) + lyingAt(colour, at + 1);
        }

        private boolean canBe(int flower) {
            return hand.hasFlower(flower) && left[flower] >= 1 && stems < MOST_STEMS
                && hand.thickOf(flower) <= room;
        }

        private int angleOf(int flower) {
            if (!hand.hasFlower(flower)) {
                return angle;
            }
            moment.inEmptyHand(hand, flower);
            moment.asThought(stems, angle, left[flower], room);
            return Moment.turned(angle, moment.turns());
        }

        private int touchingWith(int flower) {
            return touching + neighbours(hand.colourOf(flower), angleOf(flower));
        }

        /** In how many pairs a true STEM touches; it lies among its own neighbours. */
        private int touchedBy(int stem) {
            if (!hand.hasStem(stem)) {
                return 0;
            }
            return neighbours(hand.colourOf(hand.stemFlowers[stem]), hand.stemAngles[stem]) - 1;
        }

        private void put(int flower) {
            if (!hand.hasFlower(flower)) {
                return;
            }
            angle = angleOf(flower);
            touching += neighbours(hand.colourOf(flower), angle);
            change(hand.colourOf(flower), angle, 1);
            stems++;
            left[flower]--;
            room -= hand.thickOf(flower);
        }

        private void putBack(int flower, int angleAhead) {
            if (!hand.hasFlower(flower)) {
                return;
            }
            change(hand.colourOf(flower), angle, -1);
            touching -= neighbours(hand.colourOf(flower), angle);
            angle = angleAhead;
            stems--;
            left[flower]++;
            room += hand.thickOf(flower);
        }
    }

    /** Tries all orders of some FLOWERS, the first by their places first. */
    private static final class Orders {
        private final Trial trial;
        private final int[] flowers = new int[MOST_ORDERED];
        private int size = 0;
        private int fewest = 0;
        private int bestDigits = 0;

        private Orders(Trial trial) {
            this.trial = trial;
        }

        private void start(int[] row, int many) {
            size = Math.min(Math.min(many, row.length), MOST_ORDERED);
            for (int i = 0; i < size; i++) {
                flowers[i] = row[i];
            }
            bestDigits = NONE;
        }

        /** This and the trial have to be started ahead. */
        private void search(int depth, int used, int digits) {
            // STEMS that are laid behind never make TOUCHING fewer, so this can't become the best
            if (bestDigits != NONE && trial.touching >= fewest) {
                return;
            }
            if (depth >= size) {
                bestDigits = digits;
                fewest = trial.touching;
                return;
            }
            for (int i = 0; i < size; i++) {
                if (isFree(i, used)) {
                    tryPlace(i, depth, used, digits);
                }
            }
        }

        private void tryPlace(int i, int depth, int used, int digits) {
            int flower = flowers[i];
            int angleAhead = trial.angle;
            boolean laid = trial.canBe(flower);
            if (laid) {
                trial.put(flower);
            }
            search(depth + 1, used | 1 << i, digits * 10 + i + 1);
            if (laid) {
                trial.putBack(flower, angleAhead);
            }
        }

        /** A like FLOWER at an earlier free place does as well and comes first. */
        private boolean isFree(int i, int used) {
            if ((used >> i & 1) != 0) {
                return false;
            }
            for (int j = 0; j < i; j++) {
                if ((used >> j & 1) == 0 && flowers[j] == flowers[i]) {
                    return false;
                }
            }
            return true;
        }
    }

    private static final class Tape {
        private final int[] bytes = new int[MOST_BYTES];
        private int size = 0;

        private boolean add(int letter) {
            if (size >= MOST_BYTES) {
                return false;
            }
            bytes[size] = letter;
            size++;
            return true;
        }

        private void clear() {
            size = 0;
        }

        /** NONE behind the end. */
        private int byteAt(int place) {
            return place >= 0 && place < size && size <= MOST_BYTES ? bytes[place] : NONE;
        }
    }

    /**
     * The TEXTS, each as three rows of steps for a stack: a step from 0 on is a NUMBER, a negative
     * one a NAME or what is done to the uppermost.
     */
    private static final class Texts {
        private static final int NAMES = 6, PARTS = 3;
        private static final int FIRST_NAME = -1, LAST_NAME = -6;
        private static final int OR = -10, AND = -11, NOT = -12, LESS = -13, SAME = -14;
        private static final int PLUS = -15, MINUS = -16, TIMES = -17, NEGATE = -18;

        private int size = 1;
        private final int[][] steps = new int[MOST_TEXTS][MOST_BYTES];
        private final int[][] ends = new int[MOST_TEXTS][PARTS];
        private final int[] stack = new int[MOST_BYTES];

        /** TEXT 0: turns 3 ; costs 10 ; lasts 5 ; */
        private Texts() {
            steps[0][0] = 3;
            steps[0][1] = 10;
            steps[0][2] = 5;
            ends[0][0] = 1;
            ends[0][1] = 2;
            ends[0][2] = 3;
        }

        private boolean has(int which) {
            return which >= 0 && which < size;
        }

        private boolean isFull() {
            return size >= MOST_TEXTS;
        }

        private int add(Reader reader) {
            if (isFull()) {
                return FULL;
            }
            System.arraycopy(reader.steps, 0, steps[size], 0, MOST_BYTES);
            System.arraycopy(reader.ends, 0, ends[size], 0, PARTS);
            size++;
            return size - 1;
        }

        private int valueOf(int which, int part, int[] names) {
            if (!has(which) || part < 0 || part >= PARTS || names.length < NAMES) {
                return 0;
            }
            int[] row = steps[which];
            int from = part == 0 ? 0 : Math.max(0, ends[which][part - 1]);
            int to = Math.min(row.length, ends[which][part]);
            int top = 0;
            for (int i = from; i < to; i++) {
                int step = row[i];
                if (step >= LAST_NAME && top < stack.length) {
                    stack[top] = step >= 0 ? step : names[FIRST_NAME - step];
                    top++;
                } else if (isOfOne(step) && top >= 1) {
                    stack[top - 1] = ofOne(step, stack[top - 1]);
                } else if (top >= 2) {
                    stack[top - 2] = ofTwo(step, stack[top - 2], stack[top - 1]);
                    top--;
                }
            }
            return stack[0];
        }

        private static boolean isOfOne(int step) {
            return step == NOT || step == NEGATE;
        }

        private static int ofOne(int step, int a) {
            return step == NEGATE ? -a : a == 0 ? 1 : 0;
        }

        private static int ofTwo(int step, int a, int b) {
            switch (step) {
                case OR: return a != 0 || b != 0 ? 1 : 0;
                case AND: return a != 0 && b != 0 ? 1 : 0;
                case LESS: return a < b ? 1 : 0;
                case SAME: return a == b ? 1 : 0;
                case PLUS: return a + b;
                case MINUS: return a - b;
                case TIMES: return a * b;
                default: return 0;
            }
        }
    }

    /** Reads THE TAPE, one TOKEN ahead, into steps; stands still from the first FAULT on. */
    private static final class Reader {
        // the NAMES stand first and in the order of Moment's row, so a NAME's TOKEN is its place there
        private static final String WORDS =
            "stem colour number angle left room turns costs lasts or and not ";
        private static final int TURNS = 6, OR = 9, AND = 10, NOT = 11;
        private static final int NUMBER = 12, END = 13, BROKEN = 14;
        private static final int MOST_OPEN = 5, MOST_DIGITS = 4;

        private final Tape tape;
        private final int[] steps = new int[MOST_BYTES];
        private final int[] ends = new int[Texts.PARTS];
        private int made = 0;
        private int place = 0;
        private int fault = NONE;
        // the TOKEN that is looked at: a sign is its own byte
        private int token = END;
        private int start = 0;
        private int value = 0;

        private Reader(Tape tape) {
            this.tape = tape;
        }

        /** The place of the FAULT, or NONE. */
        private int readTape() {
            made = 0;
            place = 0;
            fault = NONE;
            advance();
            for (int part = 0; part < Texts.PARTS; part++) {
                expect(TURNS + part);
                readOr(0);
                expect(';');
                ends[part] = made;
            }
            expect(END);
            return fault;
        }

        private void expect(int due) {
            if (token == due) {
                advance();
            } else {
                fail();
            }
        }

        private void fail() {
            if (fault == NONE) {
                fault = start;
            }
            token = BROKEN;
        }

        private void make(int step) {
            if (made < MOST_BYTES) {
                steps[made] = step;
                made++;
            }
        }

        private void readOr(int open) {
            readAnd(open);
            for (int i = 0; i < MOST_BYTES && token == OR; i++) {
                advance();
                readAnd(open);
                make(Texts.OR);
            }
        }

        private void readAnd(int open) {
            readNot(open);
            for (int i = 0; i < MOST_BYTES && token == AND; i++) {
                advance();
                readNot(open);
                make(Texts.AND);
            }
        }

        private void readNot(int open) {
            if (token == NOT && open < MOST_OPEN) {
                advance();
                readNot(open + 1);
                make(Texts.NOT);
                return;
            }
            readSum(open);
            if (token == '<' || token == '=') {
                int step = token == '<' ? Texts.LESS : Texts.SAME;
                advance();
                readSum(open);
                make(step);
            }
        }

        private void readSum(int open) {
            readTerm(open);
            for (int i = 0; i < MOST_BYTES && (token == '+' || token == '-'); i++) {
                int step = token == '+' ? Texts.PLUS : Texts.MINUS;
                advance();
                readTerm(open);
                make(step);
            }
        }

        private void readTerm(int open) {
            readOne(open);
            for (int i = 0; i < MOST_BYTES && token == '*'; i++) {
                advance();
                readOne(open);
                make(Texts.TIMES);
            }
        }

        private void readOne(int open) {
            if (token == NUMBER) {
                make(value);
                advance();
            } else if (token >= 0 && token < Texts.NAMES) {
                make(Texts.FIRST_NAME - token);
                advance();
            } else if (token == '-' && open < MOST_OPEN) {
                advance();
                readOne(open + 1);
                make(Texts.NEGATE);
            } else if (token == '(' && open < MOST_OPEN) {
                advance();
                readOr(open + 1);
                expect(')');
            } else {
                fail();
            }
        }

        private void advance() {
            if (fault != NONE) {
                return;
            }
            for (int i = 0; i < MOST_BYTES && isBlank(tape.byteAt(place)); i++) {
                place++;
            }
            start = place;
            int first = tape.byteAt(place);
            if (first == NONE) {
                token = END;
            } else if (isLetter(first)) {
                takeWord();
            } else if (isDigit(first)) {
                takeNumber();
            } else if (isSign(first)) {
                token = first;
                place++;
            } else {
                fail();
            }
        }

        private void takeWord() {
            for (int i = 0; i < MOST_BYTES && isLetter(tape.byteAt(place)); i++) {
                place++;
            }
            int number = 0;
            int begin = 0;
            for (int i = 0; i < WORDS.length(); i++) {
                if (WORDS.charAt(i) == ' ') {
                    if (standsAtStart(begin, i)) {
                        token = number;
                        return;
                    }
                    number++;
                    begin = i + 1;
                }
            }
            fail();
        }

        private void takeNumber() {
            value = 0;
            for (int i = 0; i < MOST_BYTES && isDigit(tape.byteAt(place)); i++) {
                value = value * 10 + tape.byteAt(place) - '0';
                place++;
            }
            token = NUMBER;
            if (place - start > MOST_DIGITS) {
                fail();
            }
        }

        /** Whether the word that was taken is the one from begin to end of WORDS. */
        private boolean standsAtStart(int begin, int end) {
            if (end - begin != place - start) {
                return false;
            }
            for (int i = begin; i >= 0 && i < end && i < WORDS.length(); i++) {
                if (WORDS.charAt(i) != tape.byteAt(start + i - begin)) {
                    return false;
                }
            }
            return true;
        }

        private static boolean isBlank(int letter) {
            return letter == 32 || letter == 10;
        }

        private static boolean isLetter(int letter) {
            return letter >= 'a' && letter <= 'z';
        }

        private static boolean isDigit(int letter) {
            return letter >= '0' && letter <= '9';
        }

        private static boolean isSign(int letter) {
            switch (letter) {
                case '(':
                case ')':
                case ';':
                case '+':
                case '-':
                case '*':
                case '<':
                case '=': return true;
                default: return false;
            }
        }
    }

    private static final class Sheets {
        private static final int SHEETS = 4, MOST_ITEMS = 40;
        private static final int MISSING = -1, BYTES = 0, SHORTS = 1, INTS = 2;

        private final int[] sorts = {MISSING, MISSING, MISSING, MISSING};
        private final int[] sizes = new int[SHEETS];
        private final int[][] items = new int[SHEETS][MOST_ITEMS];

        private static boolean isNumber(int sheet) {
            return sheet >= 0 && sheet < SHEETS;
        }

        private static boolean isSort(int sort) {
            return sort >= BYTES && sort <= INTS;
        }

        private boolean isMissing(int sheet) {
            return !isNumber(sheet) || sorts[sheet] == MISSING;
        }

        private boolean hasItem(int sheet, int i) {
            return isNumber(sheet) && i >= 0 && i < sizes[sheet] && i < MOST_ITEMS;
        }

        private boolean hasItems(int sheet, int from, int n) {
            return isNumber(sheet) && from >= 0 && n >= 0 && from <= sizes[sheet] - n;
        }

        private int itemAt(int sheet, int i) {
            return hasItem(sheet, i) ? items[sheet][i] : 0;
        }

        private void become(int sheet, int sort, int n) {
            if (!isNumber(sheet) || n < 0 || n > MOST_ITEMS) {
                return;
            }
            sorts[sheet] = sort;
            sizes[sheet] = n;
            for (int i = 0; i < MOST_ITEMS; i++) {
                items[sheet][i] = 0;
            }
        }

        private void write(int sheet, int i, int v) {
            if (hasItem(sheet, i)) {
                int sort = sorts[sheet];
                items[sheet][i] = sort == BYTES ? (byte) v : sort == SHORTS ? (short) v : v;
            }
        }
    }
}
