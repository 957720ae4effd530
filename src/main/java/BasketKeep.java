import java.util.Arrays;
import java.util.NoSuchElementException;

/** Dangers, makers and their baskets, goods, and what the years do to them, as told by a text. */
public final class BasketKeep {
    public static final int NONE = -1;

    /** What the document answers, without a refusal, where there is nothing to name. */
    private static final int NOT_ANY = -2;
    private static final int HOLDS_REFUSED = -100;

    private static final int TAPE_ROOM = 900;
    private static final int BYTES_A_FEED = 20;
    private static final int MAX_DANGERS = 8;
    private static final int MAX_MAKERS = 5;
    private static final int MAX_GOODS = 4;
    private static final int MAX_UNSURE = 4;

    private static final int LAST_YEAR = 999;
    private static final int LONGEST_SPAN = 60;
    private static final int LONGEST_LAY = 30;
    private static final int LAST_BEFELL_YEAR = 40;
    private static final int MIN_STROKES = 2;
    private static final int MAX_STROKES = 18;
    private static final int MAX_WITHIES = 9;
    private static final int MAX_RUST = 9;
    private static final int MAX_SEED = 65536;
    private static final int MAX_MANY = 2000000000;

    private static final int GRAVE = 0;
    private static final int HASTY = 1;
    private static final int HAPPY = 2;

    private static final int NO_TROUBLE = 0;
    private static final int NO_SUCH = 1;
    private static final int BAD_NUMBER = 2;
    private static final int NO_ROOM = 3;
    private static final int FAULTY = 4;
    private static final int NOT_SO = 5;
    private static final int NOTHING_THERE = 6;

    private final Reader reader = new Reader();
    private final Level told = new Level();
    private boolean standing = false;
    private final State now = new State();
    private final State tried = new State();
    private final History history = new History();
    private final Outlook outlook = new Outlook();
    private final Planner planner = new Planner();
    private final Doubts doubts = new Doubts();
    private final Hurry hurry = new Hurry();
    private final int[] noSlips = new int[MAX_MAKERS];
    private int lastTrouble = NO_TROUBLE;

    public BasketKeep() {
    }

    // ---- the level

    public int feed(int a, int b, int c, int d, int e) {
        Tape tape = reader.tape;
        if (tape.length + BYTES_A_FEED > TAPE_ROOM) {
            return NONE;
        }
        tape.append(a);
        tape.append(b);
        tape.append(c);
        tape.append(d);
        tape.append(e);
        return tape.length;
    }

    public int level(int n) {
        if (refusedIf(n < 0 || n > reader.tape.length, BAD_NUMBER)) {
            return NONE;
        }
        boolean sound = reader.read(n);
        reader.tape.length = 0;
        if (refusedIf(!sound, FAULTY)) {
            return NONE;
        }
        told.copyFrom(reader.level);
        standing = true;
        now.beginAs(told);
        history.forget();
        doubts.weigh(told);
        return told.goods;
    }

    public int fault() {
        return reader.fault;
    }

    public int where() {
        return lastTrouble == FAULTY ? reader.place : NONE;
    }

    // ---- now

    public int danger(int d, int what) {
        if (noDanger(d)) {
            return NONE;
        }
        switch (what) {
            case 0:
                return told.every[d];
            case 1:
                return told.from[d];
            case 2:
                return told.goodsFearing(d);
            case 3:
                return now.makersThinkingOf(d, told.makers);
            default:
                return noSuch();
        }
    }

    public int maker(int m, int what) {
        if (noMaker(m)) {
            return NONE;
        }
        switch (what) {
            case 0:
                return told.kind[m];
            case 1:
                return now.lasts[m];
            case 2:
                return now.thinks[m];
            case 3:
                return now.goodIn(m, told.goods);
            default:
                return noSuch();
        }
    }

    public int good(int g, int what) {
        if (noGood(g)) {
            return NONE;
        }
        switch (what) {
            case 0:
                return told.worths[g];
            case 1:
                return told.fears[g];
            case 2:
                return now.lies[g];
            case 3:
                return now.isLost(g) ? 1 : 0;
            default:
                return noSuch();
        }
    }

    public int strikes(int year) {
        return noLevel() || outside(year, 1, LAST_YEAR) ? NONE : told.strikingIn(year);
    }

    public int keepsOut(int m, int year) {
        if (noMaker(m) || outside(year, 1, LAST_YEAR)) {
            return NONE;
        }
        return now.lasts[m] > 0 ? told.heldOff(m, now.thinks[m], year) : 0;
    }

    public int worth() {
        return noLevel() || cannotForesee(0) ? NONE : outlook.worthLeft;
    }

    // ---- years to come

    public int strikesNext(int d) {
        return noDanger(d) ? NONE : told.firstStrikeBehind(d, now.years);
    }

    public int worthIn(int n) {
        return noLevel() || cannotForesee(n) ? NONE : outlook.worthLeft;
    }

    public int lost(int n) {
        return noLevel() || cannotForesee(n) ? NONE : outlook.lostBits;
    }

    public int lostIn(int g) {
        return noGood(g) || cannotForesee(LONGEST_SPAN) ? NONE : outlook.lostAfter[g];
    }

    public int lostBy(int g) {
        return noGood(g) || cannotForesee(LONGEST_SPAN) ? NONE : outlook.lostThrough[g];
    }

    public int wornIn(int m) {
        return noMaker(m) || cannotForesee(LONGEST_SPAN) ? NONE : outlook.wornAfter[m];
    }

    public int lastsIn(int m, int n) {
        return noMaker(m) || cannotForesee(n) ? NONE : outlook.lasts[m];
    }

    public int keptOut(int n) {
        return noLevel() || cannotForesee(n) ? NONE : outlook.keptInAll(told);
    }

    public int busiest(int n) {
        return noLevel() || cannotForesee(n) ? NONE : outlook.busiestMaker(told);
    }

    public int worst(int n) {
        return noLevel() || cannotForesee(n) ? NONE : outlook.worstDanger(told);
    }

    public int still() {
        if (noLevel()) {
            return NONE;
        }
        for (int i = 1; i <= LONGEST_SPAN; i++) {
            if (told.strikingIn(now.years + i) == 0) {
                return i;
            }
        }
        return NOT_ANY;
    }

    /** Unless the number is refused, the outlook behind n years stands ready then. */
    private boolean cannotForesee(int n) {
        if (outside(n, 0, LONGEST_SPAN)) {
            return true;
        }
        outlook.reckon(told, now, n, noSlips);
        return false;
    }

    // ---- goods to baskets

    public int lay(int n) {
        if (noLevel() || outside(n, 1, LONGEST_LAY)) {
            return NONE;
        }
        planner.plan(told, now, n);
        return planner.bestWorth;
    }

    public int layAt(int g, int n) {
        if (noGood(g) || outside(n, 1, LONGEST_LAY)) {
            return NONE;
        }
        planner.plan(told, now, n);
        return planner.plannedBasket(g);
    }

    public int worthIf(int g, int m, int n) {
        if (noGood(g) || noMaker(m) || outside(n, 0, LONGEST_SPAN) || refusedIf(!couldLie(g, m), NOT_SO)) {
            return NONE;
        }
        tried.copyFrom(now);
        tried.lies[g] = m;
        outlook.reckon(told, tried, n, noSlips);
        return outlook.worthLeft;
    }

    private boolean couldLie(int g, int m) {
        int other = now.goodIn(m, told.goods);
        return !now.isLost(g) && (other < 0 || other == g || now.isLost(other));
    }

    public int nest(int g) {
        return noGood(g) ? NONE : planner.fewestMakers(told, now, g);
    }

    public int besides(int g, int n) {
        if (noGood(g) || outside(n, 0, LONGEST_SPAN)) {
            return NONE;
        }
        int m = now.lies[g];
        if (refusedIf(m < 0 || now.isLost(g), NOT_SO)) {
            return NONE;
        }
        return planner.fewestThoughts(told, now, g, m, n);
    }

    public int vain(int m) {
        if (noMaker(m)) {
            return NONE;
        }
        int g = now.goodIn(m, told.goods);
        return g < 0 ? now.thinks[m] : now.thinks[m] & ~told.fears[g];
    }

    public int open() {
        if (noLevel()) {
            return NONE;
        }
        int feared = 0;
        for (int g = 0; g < told.goods; g++) {
            feared |= told.fears[g];
        }
        for (int m = 0; m < told.makers; m++) {
            feared &= ~now.thinks[m];
        }
        return feared;
    }

    // ---- unsure thoughts

    public int fits() {
        return noLevel() ? NONE : Integer.bitCount(doubts.fitting);
    }

    public int fitAt(int i) {
        if (noLevel() || refusedIf(i < 0 || i >= Integer.bitCount(doubts.fitting), NO_SUCH)) {
            return NONE;
        }
        return doubts.fittingSet(i);
    }

    public int could() {
        return noLevel() ? NONE : doubts.inSome();
    }

    public int surely() {
        return noLevel() ? NONE : doubts.inAll();
    }

    public int ask() {
        return noLevel() ? NONE : doubts.bestQuestion();
    }

    public int askLeaves() {
        if (noLevel()) {
            return NONE;
        }
        int thought = doubts.bestQuestion();
        return thought < 0 ? NOT_ANY : doubts.leftAtMost(thought);
    }

    public int judge() {
        return noLevel() ? NONE : doubts.firstOtherwise;
    }

    // ---- weaves

    public long weaves(int n, int k) {
        return noLevel() || noWeave(n, k) ? NONE : k * countWeavesFromOne(n, k);
    }

    public long weavesFrom(int n, int k) {
        return noLevel() || noWeave(n, k) ? NONE : countWeavesFromOne(n, k);
    }

    public int strokes(int k, int many) {
        if (noLevel() || outside(k, 1, MAX_WITHIES) || outside(many, 0, MAX_MANY)) {
            return NONE;
        }
        for (int n = MIN_STROKES; n <= MAX_STROKES; n++) {
            if (k * countWeavesFromOne(n, k) >= many) {
                return n;
            }
        }
        return NOT_ANY;
    }

    private boolean noWeave(int n, int k) {
        return outside(n, MIN_STROKES, MAX_STROKES) || outside(k, 1, MAX_WITHIES);
    }

    /** Open rows that begin with one withy are parted into those that end with it, which don't close, and others. */
    private static long countWeavesFromOne(int n, int k) {
        long alike = 1;
        long unlike = 0;
        for (int stroke = 2; stroke <= n; stroke++) {
            long before = unlike;
            unlike = alike * (k - 1) + unlike * (k - 2);
            alike = before;
        }
        return unlike;
    }

    // ---- gate and man

    public int holds(int rust, boolean gate, boolean man, boolean ofMan) {
        if (noLevel() || outside(rust, 0, MAX_RUST)) {
            return HOLDS_REFUSED;
        }
        return ofMan ? Gate.share(rust, man, gate) : Gate.share(rust, gate, man);
    }

    public int rests(int rust) {
        return noLevel() || outside(rust, 0, MAX_RUST) ? NONE : Gate.countRests(rust);
    }

    public int rest(int rust) {
        return noLevel() || outside(rust, 0, MAX_RUST) ? NONE : Gate.firstRest(rust);
    }

    // ---- in a hurry

    public long odds(int g, int n, boolean lower) {
        if (noGood(g) || outside(n, 0, LONGEST_SPAN)) {
            return NONE;
        }
        hurry.reckonChance(told, now, g, n);
        hurry.shorten(1);
        return lower ? hurry.lower : hurry.upper;
    }

    public long mean(int g, int n, boolean lower) {
        if (noGood(g) || outside(n, 0, LONGEST_SPAN)) {
            return NONE;
        }
        hurry.reckonChance(told, now, g, n);
        hurry.shorten(told.worths[g]);
        return lower ? hurry.lower : hurry.upper;
    }

    public int drawn(int seed, int n) {
        if (noLevel() || outside(seed, 0, MAX_SEED) || outside(n, 0, LONGEST_SPAN)) {
            return NONE;
        }
        hurry.drawSlips(told, now, seed);
        outlook.reckon(told, now, n, hurry.slipped);
        return outlook.worthLeft;
    }

    public int slips(int seed) {
        return noLevel() || outside(seed, 0, MAX_SEED) ? NONE : hurry.drawSlips(told, now, seed);
    }

    // ---- acts

    public int year() {
        if (noLevel() || refusedIf(now.years >= LAST_YEAR, NO_ROOM)) {
            return NONE;
        }
        outlook.reckon(told, now, 1, noSlips);
        int newlyLost = outlook.lostBits & ~now.lost;
        history.remember(now);
        now.years++;
        now.lost = outlook.lostBits;
        for (int m = 0; m < told.makers; m++) {
            now.lasts[m] = outlook.lasts[m];
        }
        return newlyLost;
    }

    public int put(int g, int m) {
        if (noGood(g) || noMaker(m) || refusedIf(now.isLost(g) || now.goodIn(m, told.goods) >= 0, NOT_SO)) {
            return NONE;
        }
        return moveGood(g, m);
    }

    public int take(int g) {
        return noGood(g) || refusedIf(now.lies[g] < 0, NOT_SO) ? NONE : moveGood(g, NOT_ANY);
    }

    private int moveGood(int g, int to) {
        history.remember(now);
        int from = now.lies[g];
        now.lies[g] = to;
        return from;
    }

    public int think(int m, int d) {
        if (noMaker(m) || noDanger(d)) {
            return NONE;
        }
        history.remember(now);
        now.thinks[m] ^= 1 << d;
        return now.thinks[m];
    }

    public boolean mend(int m) {
        if (noMaker(m) || refusedIf(now.lasts[m] == told.lasts[m], NOT_SO)) {
            return false;
        }
        history.remember(now);
        now.lasts[m] = told.lasts[m];
        return true;
    }

    public boolean undo() {
        return !refusedIf(!history.stepBack(now), NOTHING_THERE);
    }

    public int image() {
        return noLevel() || refusedIf(history.isFullOfImages(), NO_ROOM) ? NONE : history.keepImage(now);
    }

    public boolean back(int image) {
        return !refusedIf(!history.returnTo(image, now), NO_SUCH);
    }

    // ---- what is told

    public int led(int i) throws NoSuchElementException {
        int behind = i;
        for (int g = 0; g < told.goods; g++) {
            if (now.isLost(g)) {
                if (behind == 0) {
                    return g;
                }
                behind--;
            }
        }
        throw new NoSuchElementException();
    }

    public int size(int what) {
        switch (what) {
            case 0:
                return told.hurry;
            case 1:
                return told.dangers;
            case 2:
                return told.makers;
            case 3:
                return told.goods;
            case 4:
                return now.goodsInBaskets(told.goods);
            case 5:
                return told.unsures;
            case 6:
                return told.befalls;
            case 7:
                return now.years;
            case 8:
                return history.acts;
            case 9:
                return history.images;
            case 10:
                return reader.tape.length;
            default:
                return NONE;
        }
    }

    public int trouble() {
        return lastTrouble;
    }

    /** A call makes its tests in the document's order up to the first that fails, so the last one's trouble is its own. */
    private boolean refusedIf(boolean bad, int why) {
        lastTrouble = bad ? why : NO_TROUBLE;
        return bad;
    }

    private int noSuch() {
        lastTrouble = NO_SUCH;
        return NONE;
    }

    private boolean noLevel() {
        return refusedIf(!standing, NO_SUCH);
    }

    private boolean noDanger(int d) {
        return refusedIf(!standing || d < 0 || d >= told.dangers, NO_SUCH);
    }

    private boolean noMaker(int m) {
        return refusedIf(!standing || m < 0 || m >= told.makers, NO_SUCH);
    }

    private boolean noGood(int g) {
        return refusedIf(!standing || g < 0 || g >= told.goods, NO_SUCH);
    }

    private boolean outside(int number, int least, int most) {
        return refusedIf(number < least || number > most, BAD_NUMBER);
    }

    /** What the text of a LEVEL tells; no act changes it. */
    private static final class Level {
        int hurry = 0;
        int dangers = 0;
        final int[] every = new int[MAX_DANGERS];
        final int[] from = new int[MAX_DANGERS];
        int makers = 0;
        final int[] kind = new int[MAX_MAKERS];
        final int[] lasts = new int[MAX_MAKERS];
        final int[] thinks = new int[MAX_MAKERS];
        int goods = 0;
        final int[] worths = new int[MAX_GOODS];
        final int[] fears = new int[MAX_GOODS];
        final int[] lies = new int[MAX_GOODS];
        /** The year in which it befell a good; 0 if it didn't. */
        final int[] befell = new int[MAX_GOODS];
        int befalls = 0;
        int unsures = 0;
        final int[] unsureMaker = new int[MAX_UNSURE];
        final int[] unsureDanger = new int[MAX_UNSURE];

        void clear() {
            hurry = 0;
            dangers = 0;
            makers = 0;
            goods = 0;
            befalls = 0;
            unsures = 0;
            Arrays.fill(lies, NOT_ANY);
            Arrays.fill(befell, 0);
        }

        void copyFrom(Level other) {
            hurry = other.hurry;
            dangers = other.dangers;
            makers = other.makers;
            goods = other.goods;
            befalls = other.befalls;
            unsures = other.unsures;
            System.arraycopy(other.every, 0, every, 0, MAX_DANGERS);
            System.arraycopy(other.from, 0, from, 0, MAX_DANGERS);
            System.arraycopy(other.kind, 0, kind, 0, MAX_MAKERS);
            System.arraycopy(other.lasts, 0, lasts, 0, MAX_MAKERS);
            System.arraycopy(other.thinks, 0, thinks, 0, MAX_MAKERS);
            System.arraycopy(other.worths, 0, worths, 0, MAX_GOODS);
            System.arraycopy(other.fears, 0, fears, 0, MAX_GOODS);
            System.arraycopy(other.lies, 0, lies, 0, MAX_GOODS);
            System.arraycopy(other.befell, 0, befell, 0, MAX_GOODS);
            System.arraycopy(other.unsureMaker, 0, unsureMaker, 0, MAX_UNSURE);
            System.arraycopy(other.unsureDanger, 0, unsureDanger, 0, MAX_UNSURE);
        }

        boolean isBasketTaken(int m) {
            for (int g = 0; g < goods; g++) {
                if (lies[g] == m) {
                    return true;
                }
            }
            return false;
        }

        boolean isUnsure(int m, int d) {
            for (int u = 0; u < unsures; u++) {
                if (unsureMaker[u] == m && unsureDanger[u] == d) {
                    return true;
                }
            }
            return false;
        }

        int goodsFearing(int d) {
            int bits = 0;
            for (int g = 0; g < goods; g++) {
                if ((fears[g] >> d & 1) != 0) {
                    bits |= 1 << g;
                }
            }
            return bits;
        }

        int strikingIn(int year) {
            int bits = 0;
            for (int d = 0; d < dangers; d++) {
                int step = every[d];
                if (year >= from[d] && step > 0 && (year - from[d]) % step == 0) {
                    bits |= 1 << d;
                }
            }
            return bits;
        }

        int firstStrikeBehind(int d, int year) {
            int step = every[d];
            if (from[d] > year || step <= 0) {
                return from[d];
            }
            return from[d] + ((year - from[d]) / step + 1) * step;
        }

        /** What a basket that isn't WORN keeps out, if its maker thinks of these. */
        int heldOff(int m, int thoughts, int year) {
            switch (kind[m]) {
                case HASTY:
                    return withoutHighest(thoughts);
                case HAPPY:
                    return year % 2 == 0 ? thoughts : 0;
                default:
                    return thoughts;
            }
        }

        private static int withoutHighest(int bits) {
            for (int d = MAX_DANGERS - 1; d >= 0; d--) {
                if ((bits >> d & 1) != 0) {
                    return bits ^ 1 << d;
                }
            }
            return bits;
        }
    }

    /** THE TAPE, and the TOKENS into which its first bytes are cut. */
    private static final class Tape {
        static final int END = 0;
        static final int UNKNOWN = 1;
        static final int WORD = 2;
        static final int WHOLE = 3;
        static final int SEMICOLON = 4;
        static final int COMMA = 5;

        private static final int LONGEST_WORD = 8;
        private static final int LONGEST_WHOLE = 3;

        private final byte[] bytes = new byte[TAPE_ROOM];
        int length = 0;
        private int end = 0;
        private int next = 0;
        int sort = END;
        int start = 0;
        /** The WORD's letters, five bits each, or what the WHOLE counts. */
        long value = 0;

        void append(int number) {
            for (int shift = 24; shift >= 0 && length < bytes.length; shift -= 8) {
                bytes[length] = (byte) (number >> shift);
                length++;
            }
        }

        void begin(int count) {
            end = Math.min(count, length);
            next = 0;
            advance();
        }

        void advance() {
            while (next < end && bytes[next] == ' ') {
                next++;
            }
            start = next;
            value = 0;
            if (next >= end) {
                sort = END;
            } else if (isLetter(bytes[next])) {
                takeWord();
            } else if (isDigit(bytes[next])) {
                takeWhole();
            } else {
                takeSign();
            }
        }

        private void takeWord() {
            while (next < end && isLetter(bytes[next])) {
                value = value << 5 | bytes[next] - 'a' + 1;
                next++;
            }
            sort = next - start <= LONGEST_WORD ? WORD : UNKNOWN;
        }

        private void takeWhole() {
            while (next < end && isDigit(bytes[next])) {
                value = value * 10 + bytes[next] - '0';
                next++;
            }
            sort = next - start <= LONGEST_WHOLE ? WHOLE : UNKNOWN;
        }

        private void takeSign() {
            int sign = bytes[next];
            next++;
            sort = sign == ';' ? SEMICOLON : sign == ',' ? COMMA : UNKNOWN;
        }

        boolean spells(String word) {
            return sort == WORD && value == packed(word);
        }

        static long packed(String word) {
            long letters = 0;
            for (int i = 0; i < word.length(); i++) {
                letters = letters << 5 | word.charAt(i) - 'a' + 1;
            }
            return letters;
        }

        private static boolean isLetter(int sign) {
            return sign >= 'a' && sign <= 'z';
        }

        private static boolean isDigit(int sign) {
            return sign >= '0' && sign <= '9';
        }
    }

    /** Reads the text of a LEVEL, up to its first FAULT. */
    private static final class Reader {
        private static final int FORM = 1;
        private static final int UNTOLD = 2;
        private static final int AGAIN = 3;
        private static final int BOUNDS = 4;
        private static final int MANY = 5;
        private static final int LACKS = 6;

        /** The sorts of LINES, and of the NAMES that they tell. */
        private static final int NO_LINE = -1;
        private static final int LEVEL = 0;
        private static final int DANGER = 1;
        private static final int MAKER = 2;
        private static final int GOOD = 3;
        private static final int IN = 4;
        private static final int UNSURE = 5;
        private static final int BEFELL = 6;

        private static final int MAX_NAMES = MAX_DANGERS + MAX_MAKERS + MAX_GOODS;

        final Tape tape = new Tape();
        final Level level = new Level();
        private boolean begun = false;
        private final long[] lineWords = new long[7];
        private final long[] names = new long[MAX_NAMES];
        private final int[] nameSorts = new int[MAX_NAMES];
        private final int[] nameNumbers = new int[MAX_NAMES];
        private int nameCount = 0;
        /** What the latest reading of a WHOLE, a NAME or a list brought. */
        private int taken = 0;
        int fault = 0;
        int place = NONE;

        Reader() {
            lineWords[LEVEL] = Tape.packed("level");
            lineWords[DANGER] = Tape.packed("danger");
            lineWords[MAKER] = Tape.packed("maker");
            lineWords[GOOD] = Tape.packed("good");
            lineWords[IN] = Tape.packed("in");
            lineWords[UNSURE] = Tape.packed("unsure");
            lineWords[BEFELL] = Tape.packed("befell");
        }

        boolean read(int count) {
            level.clear();
            begun = false;
            nameCount = 0;
            fault = 0;
            place = NONE;
            tape.begin(count);
            // Each round takes a token of one byte or more, so that there are fewer rounds than bytes.
            for (int round = 0; round <= count; round++) {
                if (!readLine()) {
                    return false;
                }
                if (tape.sort == Tape.END) {
                    return level.makers > 0 && level.goods > 0 || fail(LACKS);
                }
                if (tape.sort != Tape.SEMICOLON) {
                    return fail(FORM);
                }
                tape.advance();
            }
            return fail(FORM);
        }

        private boolean readLine() {
            int line = lineOf();
            if (line == NO_LINE) {
                return fail(FORM);
            }
            if (line == LEVEL && begun) {
                return fail(AGAIN);
            }
            if (line != LEVEL && !begun) {
                return fail(LACKS);
            }
            if (isFull(line)) {
                return fail(MANY);
            }
            tape.advance();
            switch (line) {
                case LEVEL:
                    return readLevelLine();
                case DANGER:
                    return readDangerLine();
                case MAKER:
                    return readMakerLine();
                case GOOD:
                    return readGoodLine();
                case IN:
                    return readInLine();
                case UNSURE:
                    return readUnsureLine();
                default:
                    return readBefellLine();
            }
        }

        private int lineOf() {
            if (tape.sort == Tape.WORD) {
                for (int line = 0; line < lineWords.length; line++) {
                    if (lineWords[line] == tape.value) {
                        return line;
                    }
                }
            }
            return NO_LINE;
        }

        private boolean isFull(int line) {
            switch (line) {
                case DANGER:
                    return level.dangers >= MAX_DANGERS;
                case MAKER:
                    return level.makers >= MAX_MAKERS;
                case GOOD:
                    return level.goods >= MAX_GOODS;
                case UNSURE:
                    return level.unsures >= MAX_UNSURE;
                default:
                    return false;
            }
        }

        private boolean readLevelLine() {
            begun = true;
            if (!takeKeyword("hurry") || !takeWholeWithin(0, 100)) {
                return false;
            }
            level.hurry = taken;
            return true;
        }

        private boolean readDangerLine() {
            int d = level.dangers;
            if (!takeNewName(DANGER, d) || !takeKeyword("every") || !takeWholeWithin(1, 9)) {
                return false;
            }
            level.every[d] = taken;
            if (!takeKeyword("from") || !takeWholeWithin(1, 30)) {
                return false;
            }
            level.from[d] = taken;
            level.dangers = d + 1;
            return true;
        }

        private boolean readMakerLine() {
            int m = level.makers;
            if (!takeNewName(MAKER, m) || !takeKind()) {
                return false;
            }
            level.kind[m] = taken;
            if (!takeKeyword("lasts") || !takeWholeWithin(1, 30)) {
                return false;
            }
            level.lasts[m] = taken;
            if (!takeKeyword("thinks") || !takeDangers()) {
                return false;
            }
            level.thinks[m] = taken;
            level.makers = m + 1;
            return true;
        }

        private boolean readGoodLine() {
            int g = level.goods;
            if (!takeNewName(GOOD, g) || !takeKeyword("worth") || !takeWholeWithin(1, 99)) {
                return false;
            }
            level.worths[g] = taken;
            if (!takeKeyword("fears") || !takeDangers()) {
                return false;
            }
            level.fears[g] = taken;
            level.goods = g + 1;
            return true;
        }

        private boolean readInLine() {
            if (!seeName(GOOD)) {
                return false;
            }
            int g = taken;
            if (level.lies[g] >= 0) {
                return fail(AGAIN);
            }
            tape.advance();
            if (!seeName(MAKER)) {
                return false;
            }
            if (level.isBasketTaken(taken)) {
                return fail(AGAIN);
            }
            level.lies[g] = taken;
            tape.advance();
            return true;
        }

        private boolean readUnsureLine() {
            if (!seeName(MAKER)) {
                return false;
            }
            int m = taken;
            tape.advance();
            if (!seeName(DANGER)) {
                return false;
            }
            if (level.isUnsure(m, taken)) {
                return fail(AGAIN);
            }
            int u = level.unsures;
            level.unsureMaker[u] = m;
            level.unsureDanger[u] = taken;
            level.unsures = u + 1;
            tape.advance();
            return true;
        }

        private boolean readBefellLine() {
            if (!seeName(GOOD)) {
                return false;
            }
            int g = taken;
            if (level.befell[g] > 0) {
                return fail(AGAIN);
            }
            tape.advance();
            if (!takeKeyword("year") || !takeWholeWithin(1, LAST_BEFELL_YEAR)) {
                return false;
            }
            level.befell[g] = taken;
            level.befalls++;
            return true;
        }

        private boolean takeKeyword(String word) {
            if (!tape.spells(word)) {
                return fail(FORM);
            }
            tape.advance();
            return true;
        }

        private boolean takeWholeWithin(int least, int most) {
            if (tape.sort != Tape.WHOLE) {
                return fail(FORM);
            }
            if (tape.value < least || tape.value > most) {
                return fail(BOUNDS);
            }
            taken = (int) tape.value;
            tape.advance();
            return true;
        }

        private boolean takeKind() {
            if (tape.spells("grave")) {
                taken = GRAVE;
            } else if (tape.spells("hasty")) {
                taken = HASTY;
            } else if (tape.spells("happy")) {
                taken = HAPPY;
            } else {
                return fail(FORM);
            }
            tape.advance();
            return true;
        }

        private boolean takeNewName(int sort, int number) {
            if (!isName()) {
                return fail(FORM);
            }
            if (nameAt() >= 0) {
                return fail(AGAIN);
            }
            if (nameCount < names.length) {
                names[nameCount] = tape.value;
                nameSorts[nameCount] = sort;
                nameNumbers[nameCount] = number;
                nameCount++;
            }
            tape.advance();
            return true;
        }

        /** Stays at the NAME, as what is told of it may be a FAULT at its place yet. */
        private boolean seeName(int sort) {
            if (!isName()) {
                return fail(FORM);
            }
            int at = nameAt();
            if (at < 0 || nameSorts[at] != sort) {
                return fail(UNTOLD);
            }
            taken = nameNumbers[at];
            return true;
        }

        private boolean takeDangers() {
            int bits = 0;
            // One round more than there are dangers: by then one stands there again.
            for (int round = 0; round <= MAX_DANGERS; round++) {
                if (!seeName(DANGER)) {
                    return false;
                }
                if ((bits >> taken & 1) != 0) {
                    return fail(AGAIN);
                }
                bits |= 1 << taken;
                tape.advance();
                if (tape.sort != Tape.COMMA) {
                    taken = bits;
                    return true;
                }
                tape.advance();
            }
            return fail(FORM);
        }

        private boolean isName() {
            return tape.sort == Tape.WORD && lineOf() == NO_LINE;
        }

        private int nameAt() {
            for (int i = 0; i < nameCount; i++) {
                if (names[i] == tape.value) {
                    return i;
                }
            }
            return NONE;
        }

        private boolean fail(int number) {
            fault = number;
            place = tape.start;
            return false;
        }
    }

    /** What acts change. */
    private static final class State {
        /** How many numbers a state is, in a row. */
        static final int LENGTH = 2 + MAX_GOODS + MAX_MAKERS + MAX_MAKERS;

        int years = 0;
        int lost = 0;
        final int[] lies = new int[MAX_GOODS];
        final int[] thinks = new int[MAX_MAKERS];
        final int[] lasts = new int[MAX_MAKERS];

        void beginAs(Level level) {
            years = 0;
            lost = 0;
            System.arraycopy(level.lies, 0, lies, 0, MAX_GOODS);
            System.arraycopy(level.thinks, 0, thinks, 0, MAX_MAKERS);
            System.arraycopy(level.lasts, 0, lasts, 0, MAX_MAKERS);
        }

        void copyFrom(State other) {
            years = other.years;
            lost = other.lost;
            System.arraycopy(other.lies, 0, lies, 0, MAX_GOODS);
            System.arraycopy(other.thinks, 0, thinks, 0, MAX_MAKERS);
            System.arraycopy(other.lasts, 0, lasts, 0, MAX_MAKERS);
        }

        void saveTo(int[] rows, int at) {
            rows[at] = years;
            rows[at + 1] = lost;
            System.arraycopy(lies, 0, rows, at + 2, MAX_GOODS);
            System.arraycopy(thinks, 0, rows, at + 2 + MAX_GOODS, MAX_MAKERS);
            System.arraycopy(lasts, 0, rows, at + 2 + MAX_GOODS + MAX_MAKERS, MAX_MAKERS);
        }

        void loadFrom(int[] rows, int at) {
            years = rows[at];
            lost = rows[at + 1];
            System.arraycopy(rows, at + 2, lies, 0, MAX_GOODS);
            System.arraycopy(rows, at + 2 + MAX_GOODS, thinks, 0, MAX_MAKERS);
            System.arraycopy(rows, at + 2 + MAX_GOODS + MAX_MAKERS, lasts, 0, MAX_MAKERS);
        }

        boolean isLost(int g) {
            return (lost >> g & 1) != 0;
        }

        int goodIn(int m, int goods) {
            for (int g = 0; g < goods; g++) {
                if (lies[g] == m) {
                    return g;
                }
            }
            return NOT_ANY;
        }

        int goodsInBaskets(int goods) {
            int count = 0;
            for (int g = 0; g < goods; g++) {
                if (lies[g] >= 0) {
                    count++;
                }
            }
            return count;
        }

        int makersThinkingOf(int d, int makers) {
            int bits = 0;
            for (int m = 0; m < makers; m++) {
                if ((thinks[m] >> d & 1) != 0) {
                    bits |= 1 << m;
                }
            }
            return bits;
        }
    }

    /** The latest ACTS and the IMAGES. */
    private static final class History {
        private static final int MAX_ACTS = 16;
        private static final int MAX_IMAGES = 3;

        /** States before the acts; a ring, so that the oldest gives way to the latest. */
        private final int[] before = new int[MAX_ACTS * State.LENGTH];
        private int next = 0;
        int acts = 0;
        private final int[] kept = new int[MAX_IMAGES * State.LENGTH];
        int images = 0;

        void forget() {
            acts = 0;
            images = 0;
        }

        void remember(State state) {
            state.saveTo(before, next * State.LENGTH);
            next = (next + 1) % MAX_ACTS;
            acts = Math.min(acts + 1, MAX_ACTS);
        }

        boolean stepBack(State state) {
            if (acts <= 0) {
                return false;
            }
            acts--;
            next = (next + MAX_ACTS - 1) % MAX_ACTS;
            state.loadFrom(before, next * State.LENGTH);
            return true;
        }

        boolean isFullOfImages() {
            return images >= MAX_IMAGES;
        }

        /** Only called while there is room. */
        int keepImage(State state) {
            if (images < MAX_IMAGES) {
                state.saveTo(kept, images * State.LENGTH);
                images++;
            }
            return images - 1;
        }

        boolean returnTo(int image, State state) {
            if (image < 0 || image >= images) {
                return false;
            }
            state.loadFrom(kept, image * State.LENGTH);
            acts = 0;
            return true;
        }
    }

    /** Follows one good through years to come: no other one that isn't LOST is in its basket, so each goes alone. */
    private static final class Walk {
        private int yearsGone = 0;
        private int span = 0;
        private final int[] striking = new int[LONGEST_SPAN + 1];
        int lostAfter = NOT_ANY;
        int lostThrough = NOT_ANY;
        int wornAfter = NOT_ANY;
        int lasts = 0;
        int kept = 0;

        void aim(Level level, State state, int years) {
            yearsGone = state.years;
            span = Math.min(years, LONGEST_SPAN);
            for (int i = 1; i <= span; i++) {
                striking[i] = level.strikingIn(yearsGone + i);
            }
        }

        boolean followBare(int fears) {
            return follow(fears, 0, 0, 0);
        }

        /** Whether a good isn't LOST in the basket of m, if m thinks of these and those slipped. */
        boolean followIn(Level level, State state, int g, int m, int thoughts, int slipped) {
            int odd = level.heldOff(m, thoughts, 1) & ~slipped;
            int even = level.heldOff(m, thoughts, 2) & ~slipped;
            return follow(level.fears[g], state.lasts[m], odd, even);
        }

        private boolean follow(int fears, int lastsFirst, int odd, int even) {
            lostAfter = NOT_ANY;
            lostThrough = NOT_ANY;
            kept = 0;
            lasts = lastsFirst;
            wornAfter = lasts > 0 ? NOT_ANY : 0;
            for (int i = 1; i <= span; i++) {
                int out = (yearsGone + i) % 2 == 0 ? even : odd;
                // What is neither feared nor kept out does nothing.
                int hits = striking[i] & (fears | out);
                if (hits != 0 && !outlastsYear(i, hits, fears, out)) {
                    return false;
                }
            }
            return true;
        }

        private boolean outlastsYear(int i, int hits, int fears, int out) {
            for (int d = 0; d < MAX_DANGERS; d++) {
                int bit = hits & 1 << d;
                if (lasts > 0 && (out & bit) != 0) {
                    kept++;
                    lasts--;
                    wornAfter = lasts > 0 ? NOT_ANY : i;
                } else if ((fears & bit) != 0) {
                    lostAfter = i;
                    lostThrough = d;
                    return false;
                }
            }
            return true;
        }
    }

    /** What becomes of all goods and baskets. */
    private static final class Outlook {
        private final Walk walk = new Walk();
        int worthLeft = 0;
        int lostBits = 0;
        final int[] lostAfter = new int[MAX_GOODS];
        final int[] lostThrough = new int[MAX_GOODS];
        final int[] wornAfter = new int[MAX_MAKERS];
        final int[] lasts = new int[MAX_MAKERS];
        final int[] kept = new int[MAX_MAKERS];

        /** Slipped are thoughts of each maker that his basket never KEEPS OUT. */
        void reckon(Level level, State state, int span, int[] slipped) {
            worthLeft = 0;
            lostBits = state.lost;
            for (int m = 0; m < level.makers; m++) {
                kept[m] = 0;
                lasts[m] = state.lasts[m];
                wornAfter[m] = lasts[m] > 0 ? NOT_ANY : 0;
            }
            walk.aim(level, state, span);
            for (int g = 0; g < level.goods; g++) {
                lostAfter[g] = 0;
                lostThrough[g] = NOT_ANY;
                if (!state.isLost(g)) {
                    followGood(level, state, g, slipped);
                }
            }
        }

        private void followGood(Level level, State state, int g, int[] slipped) {
            int m = state.lies[g];
            boolean safe = m < 0
                ? walk.followBare(level.fears[g])
                : walk.followIn(level, state, g, m, state.thinks[m], slipped[m]);
            lostAfter[g] = walk.lostAfter;
            lostThrough[g] = walk.lostThrough;
            if (safe) {
                worthLeft += level.worths[g];
            } else {
                lostBits |= 1 << g;
            }
            if (m >= 0) {
                kept[m] = walk.kept;
                lasts[m] = walk.lasts;
                wornAfter[m] = walk.wornAfter;
            }
        }

        int keptInAll(Level level) {
            int sum = 0;
            for (int m = 0; m < level.makers; m++) {
                sum += kept[m];
            }
            return sum;
        }

        int busiestMaker(Level level) {
            int best = 0;
            for (int m = 1; m < level.makers; m++) {
                if (kept[m] > kept[best]) {
                    best = m;
                }
            }
            return best;
        }

        int worstDanger(Level level) {
            int worst = NOT_ANY;
            int most = 0;
            for (int d = 0; d < level.dangers; d++) {
                int harm = harmBy(level, d);
                if (harm > most) {
                    most = harm;
                    worst = d;
                }
            }
            return worst;
        }

        private int harmBy(Level level, int d) {
            int sum = 0;
            for (int g = 0; g < level.goods; g++) {
                if (lostThrough[g] == d) {
                    sum += level.worths[g];
                }
            }
            return sum;
        }
    }

    /** LAY, NEST and BESIDES. */
    private static final class Planner {
        private final Walk walk = new Walk();
        /** For each good, where it isn't LOST: bit 0 in none, bit m + 1 in the basket of m. */
        private final int[] safe = new int[MAX_GOODS];
        /** Where each good lies in a row, 0 in none, m + 1 in the basket of m. */
        private final int[] places = new int[MAX_GOODS];
        private final int[] bestPlaces = new int[MAX_GOODS];
        int bestWorth = 0;

        void plan(Level level, State state, int span) {
            walk.aim(level, state, span);
            for (int g = 0; g < level.goods; g++) {
                safe[g] = state.isLost(g) ? 0 : safePlaces(level, state, g);
            }
            bestWorth = NONE;
            layRows(this, level, 0, 0, 0);
        }

        private int safePlaces(Level level, State state, int g) {
            int bits = walk.followBare(level.fears[g]) ? 1 : 0;
            for (int m = 0; m < level.makers; m++) {
                if (walk.followIn(level, state, g, m, state.thinks[m], 0)) {
                    bits |= 1 << m + 1;
                }
            }
            return bits;
        }

        /**
         * All rows from the good g on, in their order. Where a good would be LOST it needn't lie: the row with it in none
         * leaves as much and is ahead.
         */
        private static void layRows(Planner plan, Level level, int g, int used, int worth) {
            if (g >= level.goods || g >= MAX_GOODS) {
                plan.keepIfBetter(worth);
                return;
            }
            for (int place = 0; place <= level.makers; place++) {
                int bit = 1 << place;
                if ((plan.safe[g] & ~used & bit) != 0) {
                    plan.places[g] = place;
                    layRows(plan, level, g + 1, place == 0 ? used : used | bit, worth + level.worths[g]);
                } else if (place == 0) {
                    plan.places[g] = 0;
                    layRows(plan, level, g + 1, used, worth);
                }
            }
        }

        private void keepIfBetter(int worth) {
            if (worth > bestWorth) {
                bestWorth = worth;
                System.arraycopy(places, 0, bestPlaces, 0, MAX_GOODS);
            }
        }

        int plannedBasket(int g) {
            return bestPlaces[g] > 0 ? bestPlaces[g] - 1 : NOT_ANY;
        }

        int fewestMakers(Level level, State state, int g) {
            int best = NOT_ANY;
            int fewest = level.makers + 1;
            for (int set = 0; set < 1 << level.makers; set++) {
                int count = Integer.bitCount(set);
                if (count < fewest && (level.fears[g] & ~thoughtsOf(state, set)) == 0) {
                    fewest = count;
                    best = set;
                }
            }
            return best;
        }

        private static int thoughtsOf(State state, int makers) {
            int bits = 0;
            for (int m = 0; m < MAX_MAKERS; m++) {
                if ((makers >> m & 1) != 0) {
                    bits |= state.thinks[m];
                }
            }
            return bits;
        }

        /** For a good in the basket of m. */
        int fewestThoughts(Level level, State state, int g, int m, int span) {
            walk.aim(level, state, span);
            int best = NOT_ANY;
            int fewest = level.dangers + 1;
            int thoughts = state.thinks[m];
            for (int set = 0; set < 1 << level.dangers; set++) {
                int count = Integer.bitCount(set);
                boolean wanted = (set & thoughts) == 0 && count < fewest;
                if (wanted && walk.followIn(level, state, g, m, thoughts | set, 0)) {
                    fewest = count;
                    best = set;
                }
            }
            return best;
        }
    }

    /** FITS and what follows from them; no act changes them, so they are weighed once for a LEVEL. */
    private static final class Doubts {
        private final Walk walk = new Walk();
        private final State start = new State();
        private int unsures = 0;
        /** Bit s is set if the set s of unsure thoughts fits. */
        int fitting = 0;
        int firstOtherwise = NOT_ANY;

        void weigh(Level level) {
            unsures = level.unsures;
            start.beginAs(level);
            walk.aim(level, start, LAST_BEFELL_YEAR);
            firstOtherwise = firstMismatch(level, 0);
            fitting = 0;
            for (int set = 0; set < 1 << unsures; set++) {
                if (firstMismatch(level, set) < 0) {
                    fitting |= 1 << set;
                }
            }
        }

        private int firstMismatch(Level level, int set) {
            for (int g = 0; g < level.goods; g++) {
                if (level.befell[g] > 0 && lostYear(level, set, g) != level.befell[g]) {
                    return g;
                }
            }
            return NOT_ANY;
        }

        private int lostYear(Level level, int set, int g) {
            int m = level.lies[g];
            if (m < 0) {
                walk.followBare(level.fears[g]);
            } else {
                walk.followIn(level, start, g, m, thoughtsBy(level, set, m), 0);
            }
            return walk.lostAfter;
        }

        private static int thoughtsBy(Level level, int set, int m) {
            int thoughts = level.thinks[m];
            for (int u = 0; u < level.unsures; u++) {
                if ((set >> u & 1) != 0 && level.unsureMaker[u] == m) {
                    thoughts ^= 1 << level.unsureDanger[u];
                }
            }
            return thoughts;
        }

        /** Only asked for an i below the count of those that fit. */
        int fittingSet(int i) {
            int behind = i;
            for (int set = 0; set < 1 << MAX_UNSURE; set++) {
                if ((fitting >> set & 1) != 0) {
                    if (behind == 0) {
                        return set;
                    }
                    behind--;
                }
            }
            return NONE;
        }

        int inSome() {
            int bits = 0;
            for (int set = 0; set < 1 << MAX_UNSURE; set++) {
                if ((fitting >> set & 1) != 0) {
                    bits |= set;
                }
            }
            return bits;
        }

        int inAll() {
            int bits = (1 << MAX_UNSURE) - 1;
            for (int set = 0; set < 1 << MAX_UNSURE; set++) {
                if ((fitting >> set & 1) != 0) {
                    bits &= set;
                }
            }
            return fitting == 0 ? 0 : bits;
        }

        int bestQuestion() {
            int best = NOT_ANY;
            if (fitting == 0) {
                return best;
            }
            for (int u = 0; u < unsures; u++) {
                if (best < 0 || leftAtMost(u) < leftAtMost(best)) {
                    best = u;
                }
            }
            return best;
        }

        int leftAtMost(int thought) {
            int with = 0;
            for (int set = 0; set < 1 << MAX_UNSURE; set++) {
                if ((fitting >> set & 1) != 0 && (set >> thought & 1) != 0) {
                    with++;
                }
            }
            return Math.max(with, Integer.bitCount(fitting) - with);
        }
    }

    /** Thoughts that slip, by chance or by draws. */
    private static final class Hurry {
        private final Walk walk = new Walk();
        private long favourable = 0;
        private long all = 1;
        long upper = 0;
        long lower = 1;
        final int[] slipped = new int[MAX_MAKERS];
        private int seed = 0;

        void reckonChance(Level level, State state, int g, int span) {
            favourable = 0;
            all = 1;
            if (state.isLost(g)) {
                return;
            }
            walk.aim(level, state, span);
            int m = state.lies[g];
            if (m >= 0) {
                weighSlips(level, state, g, m);
            } else if (walk.followBare(level.fears[g])) {
                favourable = 1;
            }
        }

        /** At most eight thoughts slip or not, by hundredths: 100 to the eighth is far within a long. */
        private void weighSlips(Level level, State state, int g, int m) {
            int thoughts = state.thinks[m];
            all = power(100, Integer.bitCount(thoughts));
            for (int set = 0; set <= thoughts; set++) {
                long weight = (set & ~thoughts) == 0 ? weightOf(level.hurry, set, thoughts) : 0;
                if (weight > 0 && walk.followIn(level, state, g, m, thoughts, set)) {
                    favourable += weight;
                }
            }
        }

        private static long weightOf(int hurry, int slipping, int thoughts) {
            int slipCount = Integer.bitCount(slipping);
            int stayCount = Integer.bitCount(thoughts) - slipCount;
            return power(hurry, slipCount) * power(100 - hurry, stayCount);
        }

        private static long power(long base, int exponent) {
            long product = 1;
            for (int i = 0; i < exponent; i++) {
                product *= base;
            }
            return product;
        }

        /** The chance, times so much, in lowest terms. */
        void shorten(int times) {
            upper = favourable * times;
            lower = all;
            long divisor = commonDivisor(lower, upper);
            if (divisor > 0) {
                upper /= divisor;
                lower /= divisor;
            }
        }

        private static long commonDivisor(long one, long other) {
            long a = one;
            long b = other;
            // Two rounds halve the larger at least, so that 200 are plenty for longs.
            for (int round = 0; round < 200 && b != 0; round++) {
                long left = a % b;
                a = b;
                b = left;
            }
            return a;
        }

        int drawSlips(Level level, State state, int newSeed) {
            seed = newSeed;
            int count = 0;
            for (int m = 0; m < level.makers; m++) {
                slipped[m] = slippingOf(state.thinks[m], level.hurry);
                count += Integer.bitCount(slipped[m]);
            }
            return count;
        }

        private int slippingOf(int thoughts, int hurry) {
            int bits = 0;
            for (int d = 0; d < MAX_DANGERS; d++) {
                if ((thoughts >> d & 1) != 0 && draw() % 100 < hurry) {
                    bits |= 1 << d;
                }
            }
            return bits;
        }

        private int draw() {
            seed = (75 * seed + 74) % 65537;
            return seed;
        }
    }

    /** A gate and a man who each hold or give. */
    private static final class Gate {
        private static final int PAIRS = 4;

        static int share(int rust, boolean holding, boolean otherHolding) {
            if (holding) {
                return otherHolding ? -rust : 3;
            }
            return otherHolding ? 1 : 2;
        }

        static int countRests(int rust) {
            int count = 0;
            for (int pair = 0; pair < PAIRS; pair++) {
                if (isRest(rust, pair)) {
                    count++;
                }
            }
            return count;
        }

        static int firstRest(int rust) {
            for (int pair = 0; pair < PAIRS; pair++) {
                if (isRest(rust, pair)) {
                    return pair / 2 * 10 + pair % 2;
                }
            }
            return NOT_ANY;
        }

        /** Pairs in their order: the gate is the higher bit, holding is 1. */
        private static boolean isRest(int rust, int pair) {
            boolean gate = pair / 2 == 1;
            boolean man = pair % 2 == 1;
            return share(rust, gate, man) >= share(rust, !gate, man)
                && share(rust, man, gate) >= share(rust, !man, gate);
        }
    }
}
