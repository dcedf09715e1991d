/**
 * A farm that lets a room to the moon: cells and beasts, laws told in texts, hours that pass and can be
 * taken back, and questions about all of it.
 *
 * <p>Everything a call needs is made with the object (but for a text's own rows), so calls make no objects.
 */
public final class MoonLodger {
    public static final int NONE = -1;

    private static final int REFUSED = -2;
    private static final int NO_LEASE = -10000;

    private static final int CELLS = 30;
    private static final int COLUMNS = 6;
    private static final int ALL_CELLS = (1 << CELLS) - 1;
    private static final int LEFT_CELLS = 1 | 1 << 6 | 1 << 12 | 1 << 18 | 1 << 24;
    private static final int RIGHT_CELLS = LEFT_CELLS << 5;
    private static final int RIM_CELLS = LEFT_CELLS | RIGHT_CELLS | 63 | 63 << 24;

    private static final int LAST_KIND = 3;
    private static final int WALL_KIND = 1;
    private static final int BED_KIND = 3;
    private static final int FIRST_HEIGHT = 5;
    private static final int MOST_HEIGHT = 9;
    private static final int MOST_BEASTS = 5;
    private static final int MOST_MOOD = 9;
    private static final int MOST_KICKED = 999;
    private static final int MOST_SILVER = 9999;
    private static final int LAST_HOUR = 9999;
    private static final int HOURS_AT_ONCE = 60;
    private static final int DAY = 24;
    private static final int PHASES = 30;
    private static final int FULL = 15;
    private static final int MOST_LIGHT = 15;
    private static final int MOST_PAY = 99;
    private static final int MOST_ODDS = 10;
    private static final int FIRST_X = 197;
    private static final int MOST_SEED = 9999;
    private static final int MOST_YEARS = 40;
    private static final int MONTHS = 12;
    private static final int MOST_GAIN = 99;
    private static final int BOOK_LENGTH = 30;
    private static final int PAST_LENGTH = 30;
    private static final int PLACES_LENGTH = 6;
    private static final int SIGHTS_LENGTH = 8;

    private static final int TAPE_LENGTH = 300;
    private static final int FEED_LENGTH = 20;
    private static final int MOST_TEXTS = 4;
    private static final int MOST_CLAUSES = 24;
    private static final int MOST_NUMBER = 9999;
    private static final int MOST_OPEN = 8;
    private static final int MOST_VALUE = 1000000;
    private static final int STACK_LENGTH = 64;

    private static final int LAWS = 3;
    private static final int LAW_SHINES = 0;
    private static final int LAW_PAYS = 1;
    private static final int LAW_KICKS = 2;

    private static final int FAULT_PLACE = 1;
    private static final int FAULT_NUMBER = 2;
    private static final int FAULT_DEEP = 3;
    private static final int FAULT_TWICE = 4;
    private static final int FAULT_NAME = 5;
    private static final int FAULT_CLAUSES = 6;

    /** Each word's place here is its token; the names come first, so that a name's token is its index too. */
    private static final String WORDS =
            "hour phase size steps kind height at silver bed mood who shines pays kicks cell beast lodge out lead of to mean with light if then else end or and not ";
    private static final int WORD_COUNT = 31;
    private static final int NAME_COUNT = 11;

    private static final int T_HOUR = 0;
    private static final int T_PHASE = 1;
    private static final int T_SIZE = 2;
    private static final int T_STEPS = 3;
    private static final int T_KIND = 4;
    private static final int T_HEIGHT = 5;
    private static final int T_AT = 6;
    private static final int T_SILVER = 7;
    private static final int T_BED = 8;
    private static final int T_MOOD = 9;
    private static final int T_WHO = 10;
    private static final int T_SHINES = 11;
    private static final int T_KICKS = 13;
    private static final int T_CELL = 14;
    private static final int T_BEAST = 15;
    private static final int T_LODGE = 16;
    private static final int T_OUT = 17;
    private static final int T_LEAD = 18;
    private static final int T_OF = 19;
    private static final int T_TO = 20;
    private static final int T_MEAN = 21;
    private static final int T_WITH = 22;
    private static final int T_LIGHT = 23;
    private static final int T_IF = 24;
    private static final int T_THEN = 25;
    private static final int T_ELSE = 26;
    private static final int T_END = 27;
    private static final int T_OR = 28;
    private static final int T_AND = 29;
    private static final int T_NOT = 30;

    /** Each sign's place here, behind the words, is its token. */
    private static final String SIGNS = "<>=#+-*/();";
    private static final int FIRST_SIGN = 32;
    private static final int T_LESS = 32;
    private static final int T_MORE = 33;
    private static final int T_EQUAL = 34;
    private static final int T_UNLIKE = 35;
    private static final int T_PLUS = 36;
    private static final int T_MINUS = 37;
    private static final int T_TIMES = 38;
    private static final int T_BY = 39;
    private static final int T_OPEN = 40;
    private static final int T_CLOSE = 41;
    private static final int T_STOP = 42;
    private static final int T_NOT_MORE = 43;
    private static final int T_NOT_LESS = 44;
    private static final int T_NUMBER = 45;
    private static final int T_TAPE_END = 46;
    private static final int T_STRANGE = 47;

    /** No token, but what a minus of one ONE becomes in a law's code. */
    private static final int C_TURN = 48;
    private static final int CODE_BITS = 6;
    private static final int CODE_MASK = 63;

    /** For each name, the laws (bits) that have it. */
    private static final int[] NAME_LAWS = {7, 7, 7, 1, 1, 1, 5, 2, 2, 4, 4};

    private final Laws laws = new Laws();
    private final Holding now = laws.farm;
    private final Paths paths = laws.paths;
    private final Holding kept = new Holding();
    private final Moment ahead = new Moment();
    private final Text[] texts = new Text[MOST_TEXTS];
    private final Tape tape = new Tape();
    private final Reader reader = new Reader();
    private final Seating seating = new Seating();
    private final Lease leasing = new Lease();
    private final int[] lights = new int[CELLS];

    public MoonLodger() {
    }

    public boolean cell(int c, int kind) {
        if (!isCell(c) || !isWithin(kind, LAST_KIND)) {
            return false;
        }
        if (kind == WALL_KIND && now.moment.isTaken(c)) {
            return false;
        }
        now.kinds[c] = kind;
        cellsChanged();
        return true;
    }

    public boolean height(int c, int height) {
        if (!isCell(c) || !isWithin(height, MOST_HEIGHT)) {
            return false;
        }
        now.heights[c] = height;
        laws.forget();
        return true;
    }

    public int beast(int c, int mood) {
        if (!isFree(c) || !isWithin(mood, MOST_MOOD)) {
            return NONE;
        }
        return now.moment.addBeast(c, mood);
    }

    public int feed(int a, int b, int c, int d, int e) {
        if (tape.length + FEED_LENGTH > TAPE_LENGTH) {
            return NONE;
        }
        tape.addFour(a);
        tape.addFour(b);
        tape.addFour(c);
        tape.addFour(d);
        tape.addFour(e);
        return tape.length;
    }

    public int end(int n) {
        if (n < 0 || n > tape.length) {
            return NONE;
        }
        tape.length = n;
        return n;
    }

    public int text() {
        int number = now.texts;
        if (number < 0 || number >= MOST_TEXTS) {
            return NONE;
        }
        if (texts[number] == null) {
            texts[number] = new Text();
        }
        reader.parse(texts[number], tape);
        tape.length = 0;
        if (reader.fault != 0) {
            return NONE;
        }
        laws.forget();
        now.texts++;
        return number;
    }

    public int fault(int what) {
        switch (what) {
            case 0:
                return reader.fault;
            case 1:
                return reader.place;
            default:
                return NONE;
        }
    }

    public boolean by(int text) {
        if (text != NONE && !isText(text)) {
            return false;
        }
        now.ruling = text;
        return true;
    }

    public boolean lodge(int c) {
        if (!canLodge(c)) {
            return false;
        }
        now.remember();
        now.moment.moon = c;
        return true;
    }

    public boolean out() {
        if (now.moment.moon == NONE) {
            return false;
        }
        now.remember();
        now.moment.moon = NONE;
        return true;
    }

    public boolean lead(int beast, int c) {
        if (!canLead(beast, c)) {
            return false;
        }
        now.remember();
        now.moment.at[beast] = c;
        return true;
    }

    public int hour(int n) {
        if (n < 1 || n > HOURS_AT_ONCE || now.moment.hour + n > LAST_HOUR) {
            return NONE;
        }
        int kicks = 0;
        for (int i = 0; i < n; i++) {
            now.remember();
            kicks += laws.passHour(ruling(), now.moment);
        }
        return kicks;
    }

    public int played(int text) {
        if (!isText(text)) {
            return REFUSED;
        }
        Text script = texts[text];
        for (int i = 0; i < script.clauses; i++) {
            if (!play(script.words[i], script.firsts[i], script.seconds[i])) {
                return i;
            }
        }
        return NONE;
    }

    public int years(int seed, int n) {
        if (!isWithin(seed, MOST_SEED) || n < 1 || n > MOST_YEARS) {
            return NONE;
        }
        now.remember();
        now.moment.x = seed * 2 + FIRST_X;
        for (int i = 0; i < n; i++) {
            yearPasses(now.moment.draw());
        }
        return now.moment.hour;
    }

    public int undo() {
        return now.takeBack() ? now.pastCount : NONE;
    }

    public int of(int beast, int what) {
        if (!isBeast(beast)) {
            return NONE;
        }
        switch (what) {
            case 0:
                return now.moment.at[beast];
            case 1:
                return now.moment.mood[beast];
            case 2:
                lookNow();
                return laws.kicksOf(now.moment, beast);
            case 3:
                return now.moment.kicked[beast];
            default:
                return NONE;
        }
    }

    public int ofCell(int c, int what) {
        if (!isCell(c)) {
            return REFUSED;
        }
        switch (what) {
            case 0:
                return now.kinds[c];
            case 1:
                return now.heights[c];
            case 2:
                lookNow();
                return laws.lightAt(c);
            case 3:
                return paths.between(now.moment.moon, c);
            case 4:
                return now.moment.beastsAt(c);
            default:
                return REFUSED;
        }
    }

    public int is(int what) {
        Moment moment = now.moment;
        switch (what) {
            case 0:
                return moment.hour;
            case 1:
                return phaseAt(moment.hour);
            case 2:
                return sizeAt(moment.hour);
            case 3:
                return moment.moon;
            case 4:
                return moment.silver;
            case 5:
                return moment.x;
            case 6:
                lookNow();
                return laws.paysBy(moment);
            default:
                return REFUSED;
        }
    }

    public int book(int i, int what) {
        Moment moment = now.moment;
        if (i == NONE) {
            return moment.bookCount;
        }
        if (i < 0 || i >= moment.bookCount) {
            return REFUSED;
        }
        int kick = moment.kickAt(i);
        switch (what) {
            case 0:
                return hourOfKick(kick);
            case 1:
                return beastOfKick(kick);
            case 2:
                return lightOfKick(kick);
            default:
                return REFUSED;
        }
    }

    public int foretold(int n, int what, int beast) {
        if (n < 1 || n > HOURS_AT_ONCE || !isWithin(what, 2) || what == 1 && !isBeast(beast)) {
            return NONE;
        }
        ahead.copyFrom(now.moment);
        int kicks = 0;
        for (int i = 0; i < n; i++) {
            kicks += laws.passHour(ruling(), ahead);
        }
        if (what == 0) {
            return ahead.silver;
        }
        return what == 1 ? ahead.mood[beast] : kicks;
    }

    public int steps(int a, int b) {
        return paths.between(a, b);
    }

    public int way(int a, int b, int i) {
        int far = paths.between(b, a);
        if (i < 0 || i >= far) {
            return REFUSED;
        }
        int at = a;
        for (int k = 0; k <= i && k < CELLS; k++) {
            at = paths.nextTo(b, at);
        }
        return at;
    }

    public int rooms(int what) {
        if (!isWithin(what, 1)) {
            return NONE;
        }
        int count = 0;
        int most = 0;
        int left = paths.open;
        for (int c = 0; c < CELLS; c++) {
            if (has(left, c)) {
                int cells = reach(1 << c, left);
                left &= ~cells;
                count++;
                most = Math.max(most, Integer.bitCount(cells));
            }
        }
        return what == 0 ? count : most;
    }

    public int room(int c) {
        return isFree(c) ? reach(1 << c, paths.open) : NONE;
    }

    public int work(int c, int need) {
        return now.work.tell(c, need);
    }

    public int dark(int c, int most) {
        return now.dark.tell(c, most);
    }

    public int best(boolean light) {
        int hour = now.moment.hour;
        int bestCell = NONE;
        int bestLight = NONE;
        for (int c = 0; c < CELLS; c++) {
            if (has(paths.open, c)) {
                laws.look(ruling(), c, hour, sizeAt(hour));
                int together = servesAll() ? laws.lightTogether() : NONE;
                if (together > bestLight) {
                    bestLight = together;
                    bestCell = c;
                }
            }
        }
        return light ? bestLight : bestCell;
    }

    public int lit(int n) {
        if (!isWithin(n, MOST_LIGHT)) {
            return NONE;
        }
        lookNow();
        return laws.litCells(n);
    }

    public int seen(int c, int light) {
        return now.seen.tell(c, light);
    }

    public int fits(int what) {
        if (!isWithin(what, 2)) {
            return NONE;
        }
        int count = 0;
        int cells = 0;
        int sizes = 0;
        for (int size = 0; size <= FULL; size++) {
            int found = cellsThatFit(size);
            if (found != 0) {
                count += Integer.bitCount(found);
                cells |= found;
                sizes |= 1 << size;
            }
        }
        if (what == 0) {
            return count;
        }
        return what == 1 ? cells : sizes;
    }

    public int ask() {
        for (int c = 0; c < CELLS; c++) {
            lights[c] = 0;
        }
        for (int size = 0; size <= FULL; size++) {
            int found = cellsThatFit(size);
            for (int place = 0; place < CELLS; place++) {
                if (has(found, place)) {
                    laws.look(ruling(), place, now.moment.hour, size);
                    laws.gatherLights(lights);
                }
            }
        }
        return cellOfMostLights();
    }

    public int seats(int n, boolean ways) {
        if (!isWithin(n, MOST_LIGHT)) {
            return NONE;
        }
        lookNow();
        seating.seat(laws.litCells(n));
        return ways ? seating.waysOfMost : seating.most;
    }

    public int flood(int level) {
        if (!isWithin(level, MOST_HEIGHT)) {
            return NONE;
        }
        int low = now.cellsBelow(level);
        return reach(RIM_CELLS & low, low);
    }

    public int wet(int c) {
        if (!isCell(c)) {
            return NONE;
        }
        for (int level = 1; level <= MOST_HEIGHT; level++) {
            if (has(flood(level), c)) {
                return level;
            }
        }
        return NONE;
    }

    public boolean gain(int month, int gain) {
        if (!isWithin(month, MONTHS - 1) || gain < -MOST_GAIN || gain > MOST_GAIN) {
            return false;
        }
        now.gains[month] = gain;
        return true;
    }

    public int lease(int k, int gap, int i) {
        if (!isWithin(k, MONTHS) || !isWithin(gap, MONTHS - 1) || i < NONE || i >= MONTHS) {
            return NO_LEASE;
        }
        leasing.plan(now.gains, k, gap);
        if (i == NONE) {
            return leasing.together;
        }
        return has(leasing.months, i) ? 1 : 0;
    }

    public int read(int c, int light) {
        return now.read.tell(c, light);
    }

    public int whose() {
        Moment moment = now.moment;
        int found = 0;
        for (int i = 0; i < now.texts && i < MOST_TEXTS; i++) {
            laws.look(texts[i], moment.moon, moment.hour, sizeAt(moment.hour));
            if (laws.allAre(now.read)) {
                found |= 1 << i;
            }
        }
        return found;
    }

    public int till(int size) {
        if (!isWithin(size, FULL)) {
            return NONE;
        }
        int hour = now.moment.hour;
        if (sizeAt(hour) == size) {
            return 0;
        }
        int untilNextDay = DAY - hour % DAY;
        for (int day = 0; day < PHASES; day++) {
            int wait = untilNextDay + day * DAY;
            if (sizeAt(hour + wait) == size) {
                return wait;
            }
        }
        return NONE;
    }

    public int brightest() {
        lookNow();
        int found = NONE;
        int most = 0;
        for (int c = 0; c < CELLS; c++) {
            int light = laws.lightAt(c);
            if (light > most) {
                most = light;
                found = c;
            }
        }
        return found;
    }

    public int wildest() {
        Moment moment = now.moment;
        int found = NONE;
        for (int b = 0; b < moment.beasts; b++) {
            if (found == NONE || moment.mood[b] > moment.mood[found]) {
                found = b;
            }
        }
        return found;
    }

    public int lonely() {
        int found = 0;
        for (int b = 0; b < now.moment.beasts; b++) {
            if (isAlone(b)) {
                found |= 1 << b;
            }
        }
        return found;
    }

    public int ledger(int beast) {
        Moment moment = now.moment;
        if (beast == NONE) {
            return moment.bookCount;
        }
        if (!isBeast(beast)) {
            return REFUSED;
        }
        int count = 0;
        for (int i = 0; i < moment.bookCount; i++) {
            if (beastOfKick(moment.kickAt(i)) == beast) {
                count++;
            }
        }
        return count;
    }

    public int image() {
        kept.copyFrom(now);
        return now.moment.hour;
    }

    public int back() {
        now.copyFrom(kept);
        cellsChanged();
        return now.moment.hour;
    }

    public int about(int what) {
        switch (what) {
            case 0:
                return now.moment.beasts;
            case 1:
                return now.texts;
            case 2:
                return now.ruling;
            case 3:
                return now.pastCount;
            case 4:
                return now.work.count;
            case 5:
                return now.dark.count;
            case 6:
                return now.seen.count;
            case 7:
                return now.read.count;
            case 8:
                return tape.length;
            default:
                return REFUSED;
        }
    }

    private static boolean isWithin(int value, int most) {
        return value >= 0 && value <= most;
    }

    private static boolean isCell(int c) {
        return c >= 0 && c < CELLS;
    }

    private static boolean has(int bits, int i) {
        return (bits >> i & 1) != 0;
    }

    private static int clip(int value, int most) {
        return Math.max(0, Math.min(most, value));
    }

    private static int phaseAt(int hour) {
        return hour / DAY % PHASES;
    }

    private static int sizeAt(int hour) {
        int phase = phaseAt(hour);
        return phase < FULL ? phase : PHASES - phase;
    }

    private static int besides(int cells) {
        int upAndDown = cells << COLUMNS & ALL_CELLS | cells >> COLUMNS;
        return upAndDown | (cells & ~RIGHT_CELLS) << 1 | (cells & ~LEFT_CELLS) >> 1;
    }

    private static int reach(int from, int through) {
        int reached = from & through;
        for (int i = 0; i < CELLS; i++) {
            int more = (reached | besides(reached)) & through;
            if (more == reached) {
                return reached;
            }
            reached = more;
        }
        return reached;
    }

    private static int packKick(int hour, int beast, int light) {
        return hour << 7 | beast << 4 | light;
    }

    private static int hourOfKick(int kick) {
        return kick >> 7;
    }

    private static int beastOfKick(int kick) {
        return kick >> 4 & 7;
    }

    private static int lightOfKick(int kick) {
        return kick & 15;
    }

    private boolean isFree(int c) {
        return isCell(c) && has(paths.open, c);
    }

    private boolean isBeast(int beast) {
        return beast >= 0 && beast < now.moment.beasts;
    }

    private boolean isText(int text) {
        return text >= 0 && text < now.texts && text < MOST_TEXTS && texts[text] != null;
    }

    private Text ruling() {
        return isText(now.ruling) ? texts[now.ruling] : null;
    }

    private void cellsChanged() {
        paths.setOpen(now.cellsWithoutWall());
        laws.forget();
    }

    private void lookNow() {
        int hour = now.moment.hour;
        laws.look(ruling(), now.moment.moon, hour, sizeAt(hour));
    }

    private boolean canLodge(int c) {
        return isFree(c) && c != now.moment.moon;
    }

    private boolean canLead(int beast, int c) {
        if (!isBeast(beast)) {
            return false;
        }
        int at = now.moment.at[beast];
        return at != c && paths.between(at, c) != NONE;
    }

    /** The hours stand here as a loop of their own: of a clause's hours those that can pass do. */
    private boolean play(int word, int first, int second) {
        switch (word) {
            case T_CELL:
                return cell(first, second);
            case T_HEIGHT:
                return height(second, first);
            case T_BEAST:
                return beast(first, second) != NONE;
            case T_LODGE:
                return lodge(first);
            case T_OUT:
                return out();
            case T_LEAD:
                return lead(first, second);
            case T_HOUR:
                for (int i = 0; i < first; i++) {
                    if (now.moment.hour >= LAST_HOUR) {
                        return false;
                    }
                    now.remember();
                    laws.passHour(ruling(), now.moment);
                }
                return true;
            default:
                return true;
        }
    }

    /** What is done here is no step of its own: years are one step together. */
    private void yearPasses(int x) {
        Moment moment = now.moment;
        switch (x % 5) {
            case 0:
                if (canLodge(x % CELLS)) {
                    moment.moon = x % CELLS;
                }
                break;
            case 1:
                int beast = moment.beasts > 0 ? x % moment.beasts : NONE;
                if (canLead(beast, x / 5 % CELLS)) {
                    moment.at[beast] = x / 5 % CELLS;
                }
                break;
            case 2:
                if (x % 4 == 0) {
                    moment.moon = NONE;
                }
                break;
            default:
                laws.passHour(ruling(), moment);
                break;
        }
    }

    private boolean servesAll() {
        for (int i = 0; i < now.work.count; i++) {
            if (laws.lightAt(now.work.cells[i]) < now.work.values[i]) {
                return false;
            }
        }
        for (int i = 0; i < now.dark.count; i++) {
            if (laws.lightAt(now.dark.cells[i]) > now.dark.values[i]) {
                return false;
            }
        }
        return true;
    }

    private int cellsThatFit(int size) {
        int found = 0;
        for (int c = 0; c < CELLS; c++) {
            if (has(paths.open, c)) {
                laws.look(ruling(), c, now.moment.hour, size);
                if (laws.allAre(now.seen)) {
                    found |= 1 << c;
                }
            }
        }
        return found;
    }

    /** A cell that no place was asked for has no lights at all, so none is found without places. */
    private int cellOfMostLights() {
        int found = NONE;
        int most = 0;
        for (int c = 0; c < CELLS; c++) {
            int unlike = Integer.bitCount(lights[c]);
            if (has(paths.open, c) && unlike > most) {
                most = unlike;
                found = c;
            }
        }
        return found;
    }

    private boolean isAlone(int beast) {
        Moment moment = now.moment;
        for (int other = 0; other < moment.beasts; other++) {
            if (other != beast && paths.between(moment.at[beast], moment.at[other]) != NONE) {
                return false;
            }
        }
        return true;
    }

    /** What a step of doing changes, and what is as it was when it is taken back. */
    private static final class Moment {
        private static final int PACKED = 7 + 3 * MOST_BEASTS + BOOK_LENGTH;

        private int moon = NONE;
        private int silver = 0;
        private int hour = 0;
        private int x = FIRST_X;
        private int beasts = 0;
        private final int[] at = new int[MOST_BEASTS];
        private final int[] mood = new int[MOST_BEASTS];
        private final int[] kicked = new int[MOST_BEASTS];
        private final int[] kicks = new int[BOOK_LENGTH];
        private int bookFirst = 0;
        private int bookCount = 0;

        private void copyFrom(Moment other) {
            moon = other.moon;
            silver = other.silver;
            hour = other.hour;
            x = other.x;
            beasts = other.beasts;
            bookFirst = other.bookFirst;
            bookCount = other.bookCount;
            System.arraycopy(other.at, 0, at, 0, MOST_BEASTS);
            System.arraycopy(other.mood, 0, mood, 0, MOST_BEASTS);
            System.arraycopy(other.kicked, 0, kicked, 0, MOST_BEASTS);
            System.arraycopy(other.kicks, 0, kicks, 0, BOOK_LENGTH);
        }

        private void pack(int[] into, int from) {
            into[from] = moon;
            into[from + 1] = silver;
            into[from + 2] = hour;
            into[from + 3] = x;
            into[from + 4] = beasts;
            into[from + 5] = bookFirst;
            into[from + 6] = bookCount;
            System.arraycopy(at, 0, into, from + 7, MOST_BEASTS);
            System.arraycopy(mood, 0, into, from + 7 + MOST_BEASTS, MOST_BEASTS);
            System.arraycopy(kicked, 0, into, from + 7 + 2 * MOST_BEASTS, MOST_BEASTS);
            System.arraycopy(kicks, 0, into, from + 7 + 3 * MOST_BEASTS, BOOK_LENGTH);
        }

        /** Beasts told since it was packed stay as they are: no step that can be taken back moved them. */
        private void unpack(int[] outOf, int from) {
            moon = outOf[from];
            silver = outOf[from + 1];
            hour = outOf[from + 2];
            x = outOf[from + 3];
            int known = clip(outOf[from + 4], MOST_BEASTS);
            bookFirst = outOf[from + 5];
            bookCount = outOf[from + 6];
            System.arraycopy(outOf, from + 7, at, 0, known);
            System.arraycopy(outOf, from + 7 + MOST_BEASTS, mood, 0, known);
            System.arraycopy(outOf, from + 7 + 2 * MOST_BEASTS, kicked, 0, known);
            System.arraycopy(outOf, from + 7 + 3 * MOST_BEASTS, kicks, 0, BOOK_LENGTH);
        }

        private int addBeast(int c, int itsMood) {
            if (beasts >= MOST_BEASTS) {
                return NONE;
            }
            at[beasts] = c;
            mood[beasts] = itsMood;
            kicked[beasts] = 0;
            beasts++;
            return beasts - 1;
        }

        private boolean isTaken(int c) {
            return moon == c || beastsAt(c) != 0;
        }

        private int beastsAt(int c) {
            int found = 0;
            for (int b = 0; b < beasts; b++) {
                if (at[b] == c) {
                    found |= 1 << b;
                }
            }
            return found;
        }

        private int draw() {
            int drawn = x;
            x = (drawn * 439 + 317) % 30559;
            return drawn;
        }

        private void kick(int beast, int light) {
            mood[beast] = Math.min(MOST_MOOD, mood[beast] + 1);
            kicked[beast] = Math.min(MOST_KICKED, kicked[beast] + 1);
            silver = Math.max(0, silver - 1);
            kicks[(bookFirst + bookCount) % BOOK_LENGTH] = packKick(hour, beast, light);
            if (bookCount < BOOK_LENGTH) {
                bookCount++;
            } else {
                bookFirst = (bookFirst + 1) % BOOK_LENGTH;
            }
        }

        private int kickAt(int i) {
            return kicks[(bookFirst + i) % BOOK_LENGTH];
        }
    }

    /** Cells told with a number each, up to a limit. */
    private static final class Pairs {
        private final int[] cells;
        private final int[] values;
        private int count = 0;

        private Pairs(int most) {
            cells = new int[most];
            values = new int[most];
        }

        private int tell(int c, int value) {
            if (c == NONE) {
                count = 0;
                return 0;
            }
            if (!isCell(c) || !isWithin(value, MOST_LIGHT) || count >= cells.length) {
                return REFUSED;
            }
            cells[count] = c;
            values[count] = value;
            count++;
            return count;
        }

        private void copyFrom(Pairs other) {
            count = Math.min(other.count, cells.length);
            System.arraycopy(other.cells, 0, cells, 0, count);
            System.arraycopy(other.values, 0, values, 0, count);
        }
    }

    /**
     * All that an image holds. Of the texts it holds how many there are: a text that an image has can't
     * change afterwards, since texts come only behind those that are there.
     */
    private static final class Holding {
        private final int[] kinds = new int[CELLS];
        private final int[] heights = new int[CELLS];
        private final Moment moment = new Moment();
        private final int[] past = new int[PAST_LENGTH * Moment.PACKED];
        private int pastFirst = 0;
        private int pastCount = 0;
        private final Pairs work = new Pairs(PLACES_LENGTH);
        private final Pairs dark = new Pairs(PLACES_LENGTH);
        private final Pairs seen = new Pairs(SIGHTS_LENGTH);
        private final Pairs read = new Pairs(SIGHTS_LENGTH);
        private final int[] gains = new int[MONTHS];
        private int ruling = NONE;
        private int texts = 0;

        private Holding() {
            for (int c = 0; c < CELLS; c++) {
                heights[c] = FIRST_HEIGHT;
            }
        }

        private void copyFrom(Holding other) {
            System.arraycopy(other.kinds, 0, kinds, 0, CELLS);
            System.arraycopy(other.heights, 0, heights, 0, CELLS);
            moment.copyFrom(other.moment);
            System.arraycopy(other.past, 0, past, 0, past.length);
            pastFirst = other.pastFirst;
            pastCount = other.pastCount;
            work.copyFrom(other.work);
            dark.copyFrom(other.dark);
            seen.copyFrom(other.seen);
            read.copyFrom(other.read);
            System.arraycopy(other.gains, 0, gains, 0, MONTHS);
            ruling = other.ruling;
            texts = other.texts;
        }

        private void remember() {
            moment.pack(past, (pastFirst + pastCount) % PAST_LENGTH * Moment.PACKED);
            if (pastCount < PAST_LENGTH) {
                pastCount++;
            } else {
                pastFirst = (pastFirst + 1) % PAST_LENGTH;
            }
        }

        private boolean takeBack() {
            if (pastCount == 0) {
                return false;
            }
            pastCount--;
            moment.unpack(past, (pastFirst + pastCount) % PAST_LENGTH * Moment.PACKED);
            return true;
        }

        private int cellsWithoutWall() {
            int found = 0;
            for (int c = 0; c < CELLS; c++) {
                if (kinds[c] != WALL_KIND) {
                    found |= 1 << c;
                }
            }
            return found;
        }

        private int cellsBelow(int level) {
            int found = 0;
            for (int c = 0; c < CELLS; c++) {
                if (heights[c] < level) {
                    found |= 1 << c;
                }
            }
            return found;
        }
    }

    /** Which cells are no walls, and how many steps lie between them; a cell's row is made when asked for. */
    private static final class Paths {
        private int open = ALL_CELLS;
        private int measured = 0;
        private final int[] rows = new int[CELLS * CELLS];

        private void setOpen(int cells) {
            if (cells != open) {
                open = cells;
                measured = 0;
            }
        }

        private void measure(int from) {
            if (!isCell(from) || has(measured, from)) {
                return;
            }
            measured |= 1 << from;
            int row = from * CELLS;
            for (int c = 0; c < CELLS; c++) {
                rows[row + c] = NONE;
            }
            int edge = 1 << from & open;
            int left = open & ~edge;
            for (int far = 0; far < CELLS && edge != 0; far++) {
                int rest = edge;
                for (int i = 0; i < CELLS && rest != 0; i++) {
                    int lowest = rest & -rest;
                    rows[row + Integer.bitCount(lowest - 1)] = far;
                    rest ^= lowest;
                }
                edge = besides(edge) & left;
                left &= ~edge;
            }
        }

        private int between(int a, int b) {
            if (!isCell(a) || !isCell(b)) {
                return NONE;
            }
            measure(a);
            return rows[a * CELLS + b];
        }

        /** The lowest cell beside this one that is nearer to the goal. */
        private int nextTo(int goal, int from) {
            int nearer = between(goal, from) - 1;
            int sides = isCell(from) ? besides(1 << from) : 0;
            for (int c = 0; c < CELLS; c++) {
                if (has(sides, c) && nearer >= 0 && between(goal, c) == nearer) {
                    return c;
                }
            }
            return from;
        }
    }

    /** A text that was read: its clauses, and its laws as code in which what is joined stands ahead of the sign. */
    private static final class Text {
        private final int[] words = new int[MOST_CLAUSES];
        private final int[] firsts = new int[MOST_CLAUSES];
        private final int[] seconds = new int[MOST_CLAUSES];
        private int clauses = 0;
        private final int[] code = new int[TAPE_LENGTH];
        private int length = 0;
        private final int[] starts = new int[LAWS];
        private final int[] ends = new int[LAWS];

        private void clear() {
            clauses = 0;
            length = 0;
            for (int law = 0; law < LAWS; law++) {
                starts[law] = NONE;
                ends[law] = NONE;
            }
        }

        private boolean tells(int law) {
            return starts[law] != NONE;
        }

        private void addClause(int word, int first, int second) {
            if (clauses < MOST_CLAUSES) {
                words[clauses] = word;
                firsts[clauses] = first;
                seconds[clauses] = second;
                clauses++;
            }
        }

        private void addCode(int sign, int number) {
            if (length < TAPE_LENGTH) {
                code[length] = number << CODE_BITS | sign;
                length++;
            }
        }

        private void aimHere(int place) {
            if (place >= 0 && place < length) {
                code[place] = length << CODE_BITS | code[place] & CODE_MASK;
            }
        }
    }

    /** The tape, and the tokens it is cut into: each with its number and its place in one int. */
    private static final class Tape {
        private static final int PLACE_SHIFT = 20;
        private static final int NUMBER_MASK = 16383;

        private final int[] bytes = new int[TAPE_LENGTH];
        private int length = 0;
        private final int[] tokens = new int[TAPE_LENGTH + 1];
        private int tokenCount = 0;
        private int at = 0;
        private int behind = 0;
        private final int[] wordStarts = new int[WORD_COUNT + 1];

        private Tape() {
            int word = 0;
            for (int i = 0; i < WORDS.length() && word < WORD_COUNT; i++) {
                if (WORDS.charAt(i) == ' ') {
                    word++;
                    wordStarts[word] = i + 1;
                }
            }
        }

        private void addFour(int four) {
            for (int shift = 24; shift >= 0 && length < TAPE_LENGTH; shift -= 8) {
                bytes[length] = four >> shift & 255;
                length++;
            }
        }

        private void cut() {
            tokenCount = 0;
            at = 0;
            behind = 0;
            for (int i = 0; i < TAPE_LENGTH && behind < length; i++) {
                int sign = bytes[behind];
                if (isBlank(sign)) {
                    behind++;
                } else if (isLetter(sign)) {
                    cutWord();
                } else if (isDigit(sign)) {
                    cutNumber();
                } else {
                    cutSign();
                }
            }
            addToken(T_TAPE_END, 0, length);
        }

        private void addToken(int token, int number, int place) {
            if (tokenCount < tokens.length) {
                tokens[tokenCount] = place << PLACE_SHIFT | number << CODE_BITS | token;
                tokenCount++;
            }
        }

        private int token() {
            return tokens[at] & CODE_MASK;
        }

        private int number() {
            return tokens[at] >> CODE_BITS & NUMBER_MASK;
        }

        private int place() {
            return tokens[at] >> PLACE_SHIFT;
        }

        private void advance() {
            if (at + 1 < tokenCount) {
                at++;
            }
        }

        private static boolean isBlank(int sign) {
            return sign == ' ' || sign == '\n';
        }

        private static boolean isLetter(int sign) {
            return sign >= 'a' && sign <= 'z' || sign >= 'A' && sign <= 'Z';
        }

        private static boolean isDigit(int sign) {
            return sign >= '0' && sign <= '9';
        }

        private void cutWord() {
            int first = behind;
            while (behind < length && isLetter(bytes[behind])) {
                behind++;
            }
            for (int word = 0; word < WORD_COUNT; word++) {
                if (isWord(word, first)) {
                    addToken(word, 0, first);
                    return;
                }
            }
            addToken(T_STRANGE, 0, first);
        }

        private boolean isWord(int word, int first) {
            int start = wordStarts[word];
            int letters = wordStarts[word + 1] - 1 - start;
            if (letters != behind - first) {
                return false;
            }
            for (int i = 0; i < letters; i++) {
                if (WORDS.charAt(start + i) != bytes[first + i]) {
                    return false;
                }
            }
            return true;
        }

        /** A number too great to be told stays one above the greatest, however many digits it has. */
        private void cutNumber() {
            int first = behind;
            int number = 0;
            while (behind < length && isDigit(bytes[behind])) {
                number = Math.min(MOST_NUMBER + 1, number * 10 + bytes[behind] - '0');
                behind++;
            }
            addToken(T_NUMBER, number, first);
        }

        private void cutSign() {
            int first = behind;
            int sign = SIGNS.indexOf((char) bytes[first]);
            int token = sign < 0 ? T_STRANGE : FIRST_SIGN + sign;
            behind++;
            boolean widens = token == T_LESS || token == T_MORE;
            if (widens && behind < length && bytes[behind] == '=') {
                token = token == T_LESS ? T_NOT_MORE : T_NOT_LESS;
                behind++;
            }
            addToken(token, 0, first);
        }
    }

    /** Reads the tape as a text. Behind the first fault nothing more is taken. */
    private static final class Reader {
        private Tape tape = null;
        private Text text = null;
        private int law = LAW_SHINES;
        private int fault = NONE;
        private int place = NONE;

        private void parse(Text into, Tape from) {
            text = into;
            tape = from;
            fault = 0;
            place = NONE;
            text.clear();
            tape.cut();
            for (int i = 0; i <= MOST_CLAUSES && fault == 0 && tape.token() != T_TAPE_END; i++) {
                parseClause(tape.token());
            }
        }

        private void fail(int which) {
            if (fault == 0) {
                fault = which;
                place = tape.place();
            }
        }

        private void take(int token) {
            if (tape.token() != token) {
                fail(FAULT_PLACE);
            }
            if (fault == 0) {
                tape.advance();
            }
        }

        private int takeNumber(int least, int most) {
            int number = tape.number();
            if (tape.token() == T_NUMBER && (number < least || number > most)) {
                fail(FAULT_NUMBER);
            }
            take(T_NUMBER);
            return number;
        }

        private static boolean isLaw(int word) {
            return word >= T_SHINES && word <= T_KICKS;
        }

        private static boolean isDeed(int word) {
            return word >= T_CELL && word <= T_LEAD || word == T_HEIGHT || word == T_HOUR;
        }

        private void parseClause(int word) {
            if (!isLaw(word) && !isDeed(word)) {
                fail(FAULT_PLACE);
            } else if (isLaw(word) && text.tells(word - T_SHINES)) {
                fail(FAULT_TWICE);
            } else if (text.clauses >= MOST_CLAUSES) {
                fail(FAULT_CLAUSES);
            }
            take(word);
            if (fault == 0) {
                if (isLaw(word)) {
                    parseLaw(word);
                } else {
                    parseDeed(word);
                }
                take(T_STOP);
            }
        }

        private void parseLaw(int word) {
            law = word - T_SHINES;
            text.starts[law] = text.length;
            parseSum(0);
            text.ends[law] = text.length;
            text.addClause(word, 0, 0);
        }

        private void parseDeed(int word) {
            switch (word) {
                case T_CELL:
                    parsePair(word, CELLS - 1, T_KIND, LAST_KIND);
                    break;
                case T_HEIGHT:
                    parsePair(word, MOST_HEIGHT, T_OF, CELLS - 1);
                    break;
                case T_BEAST:
                    parsePair(word, CELLS - 1, T_MOOD, MOST_MOOD);
                    break;
                case T_LEAD:
                    parsePair(word, MOST_BEASTS - 1, T_TO, CELLS - 1);
                    break;
                case T_LODGE:
                    text.addClause(word, takeNumber(0, CELLS - 1), 0);
                    break;
                case T_HOUR:
                    text.addClause(word, takeNumber(1, HOURS_AT_ONCE), 0);
                    break;
                default:
                    text.addClause(word, 0, 0);
                    break;
            }
        }

        private void parsePair(int word, int mostFirst, int between, int mostSecond) {
            int first = takeNumber(0, mostFirst);
            take(between);
            int second = takeNumber(0, mostSecond);
            text.addClause(word, first, second);
        }

        /** Open is how many of ( not mean light if and - are around; it grows to MOST_OPEN and no further. */
        private void parseSum(int open) {
            parseProduct(open);
            for (int i = 0; i < TAPE_LENGTH && fault == 0; i++) {
                int sign = tape.token();
                if (sign != T_PLUS && sign != T_MINUS) {
                    return;
                }
                take(sign);
                parseProduct(open);
                text.addCode(sign, 0);
            }
        }

        private void parseProduct(int open) {
            parseOne(open);
            for (int i = 0; i < TAPE_LENGTH && fault == 0; i++) {
                int sign = tape.token();
                if (sign != T_TIMES && sign != T_BY) {
                    return;
                }
                take(sign);
                parseOne(open);
                text.addCode(sign, 0);
            }
        }

        private void parseOne(int open) {
            int token = tape.token();
            if (fault != 0) {
                return;
            }
            if (token == T_NUMBER) {
                text.addCode(token, takeNumber(0, MOST_NUMBER));
            } else if (token < NAME_COUNT) {
                parseName(token);
            } else if (token == T_OPEN || token == T_MINUS || token == T_MEAN || token == T_LIGHT || token == T_IF) {
                parseOpening(token, open);
            } else {
                fail(FAULT_PLACE);
            }
        }

        private void parseName(int name) {
            if (!has(NAME_LAWS[name], law)) {
                fail(FAULT_NAME);
            }
            take(name);
            text.addCode(name, 0);
        }

        private void parseOpening(int token, int open) {
            if (token == T_LIGHT && law == LAW_SHINES) {
                fail(FAULT_NAME);
            } else if (open >= MOST_OPEN) {
                fail(FAULT_DEEP);
            }
            take(token);
            if (fault != 0) {
                return;
            }
            switch (token) {
                case T_OPEN:
                    parseSum(open + 1);
                    take(T_CLOSE);
                    break;
                case T_MINUS:
                    parseOne(open + 1);
                    text.addCode(C_TURN, 0);
                    break;
                case T_MEAN:
                    parseOne(open + 1);
                    take(T_WITH);
                    parseOne(open + 1);
                    text.addCode(T_MEAN, 0);
                    break;
                case T_LIGHT:
                    parseOne(open + 1);
                    text.addCode(T_LIGHT, 0);
                    break;
                default:
                    parseChoice(open + 1);
                    break;
            }
        }

        private void parseChoice(int open) {
            parseEither(open);
            take(T_THEN);
            int whether = text.length;
            text.addCode(T_IF, 0);
            parseSum(open);
            take(T_ELSE);
            int over = text.length;
            text.addCode(T_ELSE, 0);
            text.aimHere(whether);
            parseSum(open);
            take(T_END);
            text.aimHere(over);
        }

        private void parseEither(int open) {
            parseBoth(open);
            for (int i = 0; i < TAPE_LENGTH && fault == 0 && tape.token() == T_OR; i++) {
                take(T_OR);
                parseBoth(open);
                text.addCode(T_OR, 0);
            }
        }

        private void parseBoth(int open) {
            parseAsk(open);
            for (int i = 0; i < TAPE_LENGTH && fault == 0 && tape.token() == T_AND; i++) {
                take(T_AND);
                parseAsk(open);
                text.addCode(T_AND, 0);
            }
        }

        private void parseAsk(int open) {
            if (fault != 0) {
                return;
            }
            if (tape.token() == T_NOT) {
                if (open >= MOST_OPEN) {
                    fail(FAULT_DEEP);
                    return;
                }
                take(T_NOT);
                parseAsk(open + 1);
                text.addCode(T_NOT, 0);
                return;
            }
            parseSum(open);
            int sign = tape.token();
            if (!compares(sign)) {
                fail(FAULT_PLACE);
                return;
            }
            take(sign);
            parseSum(open);
            text.addCode(sign, 0);
        }

        private static boolean compares(int sign) {
            return sign >= T_LESS && sign <= T_UNLIKE || sign == T_NOT_MORE || sign == T_NOT_LESS;
        }
    }

    /** Reckons what a law's code comes to. */
    private static final class Reckoner {
        private final int[] stack = new int[STACK_LENGTH];
        private final int[] names = new int[NAME_COUNT];

        private void setTime(int hour, int size) {
            names[T_HOUR] = hour;
            names[T_PHASE] = phaseAt(hour);
            names[T_SIZE] = size;
        }

        /**
         * The latest value is kept beside the stack, which has what waits for it. Lights are null for shines,
         * which can't ask for light: so this is never more than two deep.
         */
        private int reckon(Text text, int law, Laws lights) {
            int value = 0;
            int top = 0;
            int end = Math.min(text.ends[law], text.length);
            for (int i = Math.max(0, text.starts[law]); i < end; i++) {
                int sign = text.code[i] & CODE_MASK;
                int number = text.code[i] >> CODE_BITS;
                switch (sign) {
                    case T_ELSE:
                        i = Math.max(i, number - 1);
                        break;
                    case T_IF:
                        i = value == 0 ? Math.max(i, number - 1) : i;
                        top = Math.max(0, top - 1);
                        value = stack[top];
                        break;
                    case C_TURN:
                        value = -value;
                        break;
                    case T_NOT:
                        value = 1 - value;
                        break;
                    case T_LIGHT:
                        value = lights == null ? 0 : lights.lightAt(value);
                        break;
                    default:
                        if (sign < NAME_COUNT || sign == T_NUMBER) {
                            stack[top] = value;
                            top = Math.min(STACK_LENGTH - 1, top + 1);
                            value = sign == T_NUMBER ? number : names[sign];
                        } else {
                            top = Math.max(0, top - 1);
                            value = join(sign, stack[top], value);
                        }
                        break;
                }
            }
            return value;
        }

        private static int join(int sign, int left, int right) {
            long value = 0;
            switch (sign) {
                case T_PLUS:
                    value = left + right;
                    break;
                case T_MINUS:
                    value = left - right;
                    break;
                case T_TIMES:
                    value = (long) left * right;
                    break;
                case T_BY:
                    value = right == 0 ? 0 : left / right;
                    break;
                case T_MEAN:
                    value = (left + right) / 2;
                    break;
                case T_OR:
                    value = left | right;
                    break;
                case T_AND:
                    value = left & right;
                    break;
                case T_LESS:
                    value = left < right ? 1 : 0;
                    break;
                case T_NOT_MORE:
                    value = left <= right ? 1 : 0;
                    break;
                case T_MORE:
                    value = left > right ? 1 : 0;
                    break;
                case T_NOT_LESS:
                    value = left >= right ? 1 : 0;
                    break;
                case T_EQUAL:
                    value = left == right ? 1 : 0;
                    break;
                default:
                    value = left != right ? 1 : 0;
                    break;
            }
            return (int) Math.max(-MOST_VALUE, Math.min(MOST_VALUE, value));
        }
    }

    /** What a text rules, for a moon that lies somewhere at some hour, of some size. */
    private static final class Laws {
        private final Paths paths = new Paths();
        private final Holding farm = new Holding();
        private final Reckoner shining = new Reckoner();
        private final Reckoner asking = new Reckoner();
        private Text text = null;
        private int moon = NONE;
        private int hour = 0;
        private int size = 0;

        /** By steps and cell: the light, behind the round in which it was found; a light of another round is stale. */
        private final int[] found = new int[CELLS * CELLS];
        private int round = 1;

        private void forget() {
            round++;
        }

        private void look(Text by, int place, int atHour, int ofSize) {
            if (by != text || atHour != hour || ofSize != size) {
                forget();
            }
            text = by;
            moon = isCell(place) ? place : NONE;
            hour = atHour;
            size = ofSize;
            paths.measure(moon);
        }

        private boolean tells(int law) {
            return text != null && text.tells(law);
        }

        private int lightAt(int c) {
            if (moon == NONE || !isCell(c)) {
                return 0;
            }
            int steps = paths.rows[moon * CELLS + c];
            if (steps == NONE) {
                return 0;
            }
            if (!tells(LAW_SHINES)) {
                return clip(size - 2 * steps, MOST_LIGHT);
            }
            int key = steps * CELLS + c;
            if (found[key] >> 4 != round) {
                shining.setTime(hour, size);
                shining.names[T_STEPS] = steps;
                shining.names[T_KIND] = farm.kinds[c];
                shining.names[T_HEIGHT] = farm.heights[c];
                shining.names[T_AT] = c;
                found[key] = round << 4 | clip(shining.reckon(text, LAW_SHINES, null), MOST_LIGHT);
            }
            return found[key] & 15;
        }

        private int paysBy(Moment moment) {
            if (!tells(LAW_PAYS)) {
                return 1;
            }
            asking.setTime(hour, size);
            asking.names[T_SILVER] = moment.silver;
            asking.names[T_BED] = moon != NONE && farm.kinds[moon] == BED_KIND ? 1 : 0;
            return clip(asking.reckon(text, LAW_PAYS, this), MOST_PAY);
        }

        private int kicksOf(Moment moment, int beast) {
            if (!tells(LAW_KICKS)) {
                return lightAt(moment.at[beast]) / 3;
            }
            asking.setTime(hour, size);
            asking.names[T_MOOD] = moment.mood[beast];
            asking.names[T_WHO] = beast;
            asking.names[T_AT] = moment.at[beast];
            return clip(asking.reckon(text, LAW_KICKS, this), MOST_ODDS);
        }

        /** How many kicks there were; nothing is done if the hour can't pass. */
        private int passHour(Text by, Moment moment) {
            if (moment.hour >= LAST_HOUR) {
                return 0;
            }
            look(by, moment.moon, moment.hour, sizeAt(moment.hour));
            if (moon != NONE) {
                moment.silver = Math.min(MOST_SILVER, moment.silver + paysBy(moment));
            }
            int kicks = 0;
            for (int beast = 0; beast < moment.beasts; beast++) {
                if (moment.draw() % 10 < kicksOf(moment, beast)) {
                    moment.kick(beast, lightAt(moment.at[beast]));
                    kicks++;
                } else {
                    moment.mood[beast] = Math.max(0, moment.mood[beast] - 1);
                }
            }
            moment.hour++;
            return kicks;
        }

        private boolean allAre(Pairs told) {
            for (int i = 0; i < told.count; i++) {
                if (lightAt(told.cells[i]) != told.values[i]) {
                    return false;
                }
            }
            return true;
        }

        private int litCells(int n) {
            int lit = 0;
            for (int c = 0; c < CELLS; c++) {
                if (has(paths.open, c) && lightAt(c) >= n) {
                    lit |= 1 << c;
                }
            }
            return lit;
        }

        private int lightTogether() {
            int sum = 0;
            for (int c = 0; c < CELLS; c++) {
                sum += lightAt(c);
            }
            return sum;
        }

        private void gatherLights(int[] into) {
            for (int c = 0; c < CELLS && c < into.length; c++) {
                into[c] |= 1 << lightAt(c);
            }
        }
    }

    /** Seats of which no two are side by side, cell by cell; a state is which of the last row's length are seats. */
    private static final class Seating {
        private static final int STATES = 1 << COLUMNS;

        private int[] seats = new int[STATES];
        private int[] ways = new int[STATES];
        private int[] nextSeats = new int[STATES];
        private int[] nextWays = new int[STATES];
        private int most = 0;
        private int waysOfMost = 0;

        private void seat(int cells) {
            clearNext();
            offer(0, 0, 1);
            swap();
            for (int c = 0; c < CELLS; c++) {
                clearNext();
                for (int state = 0; state < STATES; state++) {
                    if (ways[state] > 0) {
                        goOn(state, has(cells, c) && mayTake(state, c));
                    }
                }
                swap();
            }
            collect();
        }

        /** The lowest bit is the cell to the left, the highest the cell above. */
        private static boolean mayTake(int state, int c) {
            boolean leftIsTaken = c % COLUMNS != 0 && has(state, 0);
            return !leftIsTaken && !has(state, COLUMNS - 1);
        }

        private void goOn(int state, boolean mayTake) {
            int moved = state << 1 & STATES - 1;
            offer(moved, seats[state], ways[state]);
            if (mayTake) {
                offer(moved | 1, seats[state] + 1, ways[state]);
            }
        }

        private void offer(int state, int count, int inWays) {
            if (nextWays[state] == 0 || count > nextSeats[state]) {
                nextSeats[state] = count;
                nextWays[state] = inWays;
            } else if (count == nextSeats[state]) {
                nextWays[state] += inWays;
            }
        }

        private void clearNext() {
            for (int state = 0; state < STATES; state++) {
                nextSeats[state] = 0;
                nextWays[state] = 0;
            }
        }

        private void swap() {
            int[] oldSeats = seats;
            int[] oldWays = ways;
            seats = nextSeats;
            ways = nextWays;
            nextSeats = oldSeats;
            nextWays = oldWays;
        }

        private void collect() {
            clearNext();
            for (int state = 0; state < STATES; state++) {
                if (ways[state] > 0) {
                    offer(0, seats[state], ways[state]);
                }
            }
            most = nextSeats[0];
            waysOfMost = nextWays[0];
        }
    }

    /**
     * The best months, from the last one on. A worth is gains times 16 less how many months, so that of like
     * gains fewer months are worth more; of like worths the number of months is the same, and the month that
     * comes first is taken. Behind the last month, and with no month left to take, worths stay 0.
     */
    private static final class Lease {
        private static final int WIDTH = MONTHS + 1;

        private final int[] worths = new int[WIDTH * WIDTH];
        private int together = 0;
        private int months = 0;

        private void plan(int[] gains, int most, int gap) {
            for (int month = MONTHS - 1; month >= 0; month--) {
                for (int left = 1; left <= most; left++) {
                    int without = worths[(month + 1) * WIDTH + left];
                    worths[month * WIDTH + left] = Math.max(without, worthWith(gains, month, left, gap));
                }
            }
            choose(gains, most, gap);
        }

        private int worthWith(int[] gains, int month, int left, int gap) {
            int next = Math.min(MONTHS, month + gap + 1);
            return gains[month] * 16 - 1 + worths[next * WIDTH + left - 1];
        }

        private void choose(int[] gains, int most, int gap) {
            together = 0;
            months = 0;
            int left = most;
            int next = 0;
            for (int month = 0; month < MONTHS && left > 0; month++) {
                if (month >= next && worths[month * WIDTH + left] == worthWith(gains, month, left, gap)) {
                    months |= 1 << month;
                    together += gains[month];
                    left--;
                    next = month + gap + 1;
                }
            }
        }
    }
}
