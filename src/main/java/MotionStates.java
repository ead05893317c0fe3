import java.util.Arrays;

/** A figure that moves by states and blends between them; ../shared/DOC.md tells what each call promises. */
public final class MotionStates {
    public static final int NONE = -1, UNKNOWN = -2, OUTSIDE = -3, NOT = -4, FULL = -5, NULL = -11, SIZE = -12, INDEX = -13, STORE = -14, EMPTY = -15;

    private static final int LIMBS = 4, MOST_STATES = 6, MOST_WAYS = 12, NUMBERS = 3, TRIGGERS = 3, LAYERS = 2;
    private static final int ANY_STATE = 9, MOST_VALUE = 99, FULL_WEIGHT = 16, MOST_FRAMES = 16, MOST_LASTED = 9999;
    private static final int FROM = 0, TO = 1, FRAMES = 2, BREAKS = 3, CONDITION = 4, SUBJECT = 5, LIMIT = 6, WAY_PARTS = 7;
    private static final int AFTER = 0, OVER = 1, UNDER = 2, TRIGGER = 3;
    private static final int MOST_LETTERS = 200, MOST_CLAUSES = 24;
    private static final int MOST_STEPS = 99, MOST_FORETOLD = 300, MOST_UNDONE = 8, KEPT = 2;
    private static final int SHELVES = 3, MOST_PLACES = 8, DOTS = 1, STROKES = 2, MARK_NUMBERS = 1000;
    /** Answers that may be below zero are moved up by this, so that none looks like a refusal. */
    private static final int ABOVE_REFUSALS = 100;
    private static final long SIGN_BIT = 1L << 63;

    private final Text text = new Text();
    private final Figure told = new Figure();
    private final Figure draft = new Figure();
    private final Motion now = new Motion();
    private final Motion guess = new Motion();
    private final Motion[] past = new Motion[MOST_UNDONE];
    private final Motion[] stored = new Motion[KEPT];
    private final boolean[] isStored = new boolean[KEPT];
    private final Shelf[] shelves = new Shelf[SHELVES];
    private int newestPast;
    private int undoable;

    public MotionStates() {
        for (int i = 0; i < MOST_UNDONE; i++) {
            past[i] = new Motion();
        }
        for (int i = 0; i < KEPT; i++) {
            stored[i] = new Motion();
        }
        for (int i = 0; i < SHELVES; i++) {
            shelves[i] = new Shelf();
        }
    }

    // ---- what is told

    public int write(int letter) {
        if (letter < 0 || letter > 255) {
            return OUTSIDE;
        }
        if (text.length >= MOST_LETTERS) {
            return FULL;
        }
        text.letters[text.length] = (char) letter;
        text.length++;
        return text.length;
    }

    public int erase() {
        int had = text.length;
        text.length = 0;
        return had;
    }

    public int fault() {
        draft.copyFrom(told);
        return text.readOnto(draft);
    }

    public int figure() {
        draft.copyFrom(told);
        if (text.readOnto(draft) != NONE) {
            return NOT;
        }
        told.copyFrom(draft);
        text.length = 0;
        beginAnew();
        return text.clauses;
    }

    public int value(int state, int limb) {
        if (!isState(state) || !isLimb(limb)) {
            return UNKNOWN;
        }
        return told.values[state * LIMBS + limb] + ABOVE_REFUSALS;
    }

    public int way(int way, int what) {
        if (way < 0 || way >= told.ways) {
            return UNKNOWN;
        }
        if (what < 0 || what >= WAY_PARTS) {
            return OUTSIDE;
        }
        int part = told.part(way, what);
        return what == LIMIT ? part + ABOVE_REFUSALS : part;
    }

    // ---- what is done

    public int set(int number, int v) {
        if (number < 0 || number >= NUMBERS) {
            return UNKNOWN;
        }
        if (v < -MOST_VALUE || v > MOST_VALUE) {
            return OUTSIDE;
        }
        int was = now.numbers[number];
        if (was == v) {
            return NOT;
        }
        remember();
        now.numbers[number] = v;
        return was + ABOVE_REFUSALS;
    }

    public int pull(int trigger) {
        if (!isTrigger(trigger)) {
            return UNKNOWN;
        }
        if (now.isTriggered(trigger)) {
            return NOT;
        }
        remember();
        now.trigger(trigger);
        return 1;
    }

    public int step(int n) {
        if (n < 1 || n > MOST_STEPS) {
            return OUTSIDE;
        }
        if (told.states == 0) {
            return NOT;
        }
        remember();
        for (int i = 0; i < n; i++) {
            now.goOn(told);
        }
        return now.lower.state;
    }

    public int undo() {
        if (undoable == 0) {
            return NOT;
        }
        now.copyFrom(past[newestPast]);
        newestPast = newestPast == 0 ? MOST_UNDONE - 1 : newestPast - 1;
        undoable--;
        return undoable;
    }

    public int keep(int k) {
        if (!isKeeping(k)) {
            return UNKNOWN;
        }
        stored[k].copyFrom(now);
        isStored[k] = true;
        return lowerState();
    }

    public int back(int k) {
        if (!isKeeping(k)) {
            return UNKNOWN;
        }
        if (!isStored[k]) {
            return NOT;
        }
        now.copyFrom(stored[k]);
        undoable = 0;
        return lowerState();
    }

    // ---- how it stands

    public int layer(int layer, int what) {
        if (!isLayer(layer)) {
            return UNKNOWN;
        }
        if (what < 0 || what > 5) {
            return OUTSIDE;
        }
        if (told.states == 0) {
            return NOT;
        }
        return now.layerAt(layer).part(what);
    }

    public int share(int layer, int state) {
        if (!isLayer(layer) || !isState(state)) {
            return UNKNOWN;
        }
        return (int) (now.layerAt(layer).shares[state] * 65536f);
    }

    public int bits(int layer, int state) {
        if (!isLayer(layer) || !isState(state)) {
            return UNKNOWN;
        }
        return floatBits(now.layerAt(layer).shares[state]);
    }

    public int limb(int limb) {
        if (!isLimb(limb)) {
            return UNKNOWN;
        }
        if (told.states == 0) {
            return NOT;
        }
        return (int) (mixedLimb(limb) * 1024f) + 1000000;
    }

    public long exact(int limb) {
        if (!isLimb(limb)) {
            return UNKNOWN;
        }
        if (told.states == 0) {
            return NOT;
        }
        float mixed = mixedLimb(limb);
        if (mixed == 0f) {
            return isMinusZero(limb) ? SIGN_BIT : 0L;
        }
        return doubleBits((double) mixed);
    }

    public int whole(int layer) {
        if (!isLayer(layer)) {
            return UNKNOWN;
        }
        if (told.states == 0) {
            return NOT;
        }
        float excess = now.layerAt(layer).sumOfShares(told.states) - 1f;
        return (int) (excess * 16777216f) + ABOVE_REFUSALS;
    }

    // ---- foretold

    public int reach(int state) {
        if (!isState(state)) {
            return UNKNOWN;
        }
        int reached = 1 << state;
        // Each round that finds anything finds a STATE more, so as many rounds as STATES are enough.
        for (int round = 0; round < MOST_STATES; round++) {
            reached |= told.stepsFrom(reached);
        }
        return reached;
    }

    public int dead() {
        if (told.states == 0) {
            return NOT;
        }
        int ends = 0;
        for (int state = 0; state < told.states; state++) {
            int bit = 1 << state;
            if ((told.stepsFrom(bit) & ~bit) == 0) {
                ends |= bit;
            }
        }
        return ends;
    }

    public int until(int layer, int state) {
        if (!isLayer(layer) || !isState(state)) {
            return UNKNOWN;
        }
        guess.copyFrom(now);
        for (int frames = 0; frames <= MOST_FORETOLD; frames++) {
            if (guess.layerAt(layer).state == state) {
                return frames;
            }
            guess.goOn(told);
        }
        return NONE;
    }

    public int pulled(int layer, int trigger) {
        if (!isLayer(layer) || !isTrigger(trigger)) {
            return UNKNOWN;
        }
        if (told.states == 0 || now.isTriggered(trigger)) {
            return NOT;
        }
        guess.copyFrom(now);
        guess.trigger(trigger);
        guess.goOn(told);
        return guess.layerAt(layer).state;
    }

    // ---- shelves

    public int shelf(int shelf, int sort, int n) {
        if (!isShelf(shelf)) {
            return UNKNOWN;
        }
        if (sort < 0 || sort > STROKES || n > MOST_PLACES) {
            return OUTSIDE;
        }
        if (n < 0) {
            return SIZE;
        }
        shelves[shelf].makeNew(sort, n);
        return n;
    }

    public int lay(int shelf, int i, int sort, int v) {
        if (!isShelf(shelf)) {
            return UNKNOWN;
        }
        if (sort < DOTS || sort > STROKES || v < 0 || v >= MARK_NUMBERS) {
            return OUTSIDE;
        }
        int mark = sort == DOTS ? v : MARK_NUMBERS + v;
        int refusal = shelves[shelf].refusalOf(i, mark);
        if (refusal != NONE) {
            return refusal;
        }
        shelves[shelf].marks[i] = mark;
        return v;
    }

    public int look(int shelf, int i) {
        return isShelf(shelf) ? shelves[shelf].markAt(i) : UNKNOWN;
    }

    public int lift(int shelf, int i) {
        if (!isShelf(shelf)) {
            return UNKNOWN;
        }
        int mark = shelves[shelf].markAt(i);
        if (mark >= 0) {
            shelves[shelf].marks[i] = EMPTY;
        }
        return mark;
    }

    public int likeness(int shelf, int other) {
        if (!isShelf(shelf) || !isShelf(other)) {
            return UNKNOWN;
        }
        if (shelves[other].isMissing) {
            return NULL;
        }
        shelves[shelf].copyFrom(shelves[other]);
        return shelves[shelf].places;
    }

    public int hand(int shelf, int i, int other, int j) {
        if (!isShelf(shelf) || !isShelf(other)) {
            return UNKNOWN;
        }
        Shelf giver = shelves[shelf];
        Shelf taker = shelves[other];
        if (giver.isMissing || taker.isMissing) {
            return NULL;
        }
        if (!giver.hasPlace(i) || !taker.hasPlace(j)) {
            return INDEX;
        }
        int mark = giver.marks[i];
        if (mark < 0) {
            return EMPTY;
        }
        if (!taker.takes(mark)) {
            return STORE;
        }
        taker.marks[j] = mark;
        return 1;
    }

    public int drop(int shelf) {
        if (!isShelf(shelf)) {
            return UNKNOWN;
        }
        if (shelves[shelf].isMissing) {
            return NULL;
        }
        int had = shelves[shelf].places;
        shelves[shelf].remove();
        return had;
    }

    public int count(int what) {
        switch (what) {
            case 0: return told.states;
            case 1: return told.ways;
            case 2: return now.triggers;
            case 3: return now.numbers[0] + ABOVE_REFUSALS;
            case 4: return now.numbers[1] + ABOVE_REFUSALS;
            case 5: return now.numbers[2] + ABOVE_REFUSALS;
            case 6: return told.mask;
            case 7: return told.weight;
            case 8: return things();
            case 9: return undoable;
            case 10: return text.length;
            default: return OUTSIDE;
        }
    }

    private boolean isState(int state) {
        return state >= 0 && state < told.states;
    }

    private static boolean isLimb(int limb) {
        return limb >= 0 && limb < LIMBS;
    }

    private static boolean isLayer(int layer) {
        return layer >= 0 && layer < LAYERS;
    }

    private static boolean isTrigger(int trigger) {
        return trigger >= 0 && trigger < TRIGGERS;
    }

    private static boolean isKeeping(int k) {
        return k >= 0 && k < KEPT;
    }

    private static boolean isShelf(int shelf) {
        return shelf >= 0 && shelf < SHELVES;
    }

    private int lowerState() {
        return told.states == 0 ? NONE : now.lower.state;
    }

    private int things() {
        int sum = 0;
        for (int i = 0; i < SHELVES; i++) {
            sum += shelves[i].things();
        }
        return sum;
    }

    private void beginAnew() {
        now.reset();
        undoable = 0;
        for (int i = 0; i < KEPT; i++) {
            isStored[i] = false;
        }
        for (int i = 0; i < SHELVES; i++) {
            shelves[i].remove();
        }
    }

    private void remember() {
        newestPast = newestPast == MOST_UNDONE - 1 ? 0 : newestPast + 1;
        past[newestPast].copyFrom(now);
        undoable = Math.min(undoable + 1, MOST_UNDONE);
    }

    private float upperWeight() {
        return (float) told.weight / (float) FULL_WEIGHT;
    }

    private float mixedLimb(int limb) {
        float below = now.lower.limbOf(told, limb);
        if (!told.isMasked(limb)) {
            return below;
        }
        float above = now.upper.limbOf(told, limb);
        float w = upperWeight();
        float kept = below * (1f - w);
        return kept + above * w;
    }

    /**
     * Whether a LIMB that is 0 is the zero below zero. A LAYER's own LIMB never is (its sum starts at 0), but two
     * products that are both too small and both below zero add up to it.
     */
    private boolean isMinusZero(int limb) {
        if (!told.isMasked(limb)) {
            return false;
        }
        float below = now.lower.limbOf(told, limb);
        float above = now.upper.limbOf(told, limb);
        float w = upperWeight();
        return below < 0f && above < 0f && below * (1f - w) == 0f && above * w == 0f;
    }

    /** The bits of a float from 0 to 1; the library's own call is not in LANGUAGE.md, doubling is exact. */
    private static int floatBits(float share) {
        float scaled = share;
        int exponent = 127;
        for (int i = 0; i < 126 && scaled < 1f; i++) {
            scaled = scaled * 2f;
            exponent--;
        }
        // Shares halved often enough fall below the least normal float, where the exponent's field is 0.
        if (scaled < 1f) {
            return (int) (scaled * 8388608f);
        }
        return (exponent << 23) + (int) ((scaled - 1f) * 8388608f);
    }

    /** The bits of a double that a float other than 0 was made into: such a one is always normal. */
    private static long doubleBits(double made) {
        double scaled = made < 0.0 ? -made : made;
        long exponent = 1023L;
        for (int i = 0; i < 1022 && scaled < 1.0; i++) {
            scaled = scaled * 2.0;
            exponent--;
        }
        for (int i = 0; i < 1023 && scaled >= 2.0; i++) {
            scaled = scaled / 2.0;
            exponent++;
        }
        long magnitude = (exponent << 52) + (long) ((scaled - 1.0) * 4503599627370496.0);
        return made < 0.0 ? magnitude | SIGN_BIT : magnitude;
    }

    /** What texts have told: it stays as it is while the figure moves. */
    private static final class Figure {
        private int states;
        private final int[] values = new int[MOST_STATES * LIMBS];
        private int ways;
        private final int[] wayParts = new int[MOST_WAYS * WAY_PARTS];
        private int mask;
        private int weight = FULL_WEIGHT;

        void copyFrom(Figure other) {
            states = other.states;
            System.arraycopy(other.values, 0, values, 0, values.length);
            ways = other.ways;
            System.arraycopy(other.wayParts, 0, wayParts, 0, wayParts.length);
            mask = other.mask;
            weight = other.weight;
        }

        void reset() {
            states = 0;
            ways = 0;
            mask = 0;
            weight = FULL_WEIGHT;
        }

        int part(int way, int what) {
            return wayParts[way * WAY_PARTS + what];
        }

        void putPart(int way, int what, int part) {
            wayParts[way * WAY_PARTS + what] = part;
        }

        boolean leadsFrom(int way, int state) {
            int from = part(way, FROM);
            return from == state || from == ANY_STATE;
        }

        boolean isMasked(int limb) {
            return (mask >> limb & 1) == 1;
        }

        /** The STATES (bits) to which single WAYS lead from any of the given ones (bits). */
        int stepsFrom(int origins) {
            int targets = 0;
            for (int way = 0; way < ways; way++) {
                int from = part(way, FROM);
                if (from == ANY_STATE || (origins >> from & 1) == 1) {
                    targets |= 1 << part(way, TO);
                }
            }
            return targets;
        }
    }

    /** All that frames, numbers and triggers change: what is undone, kept and foretold as one. */
    private static final class Motion {
        private final Layer lower = new Layer();
        private final Layer upper = new Layer();
        private final int[] numbers = new int[NUMBERS];
        private int triggers;

        void copyFrom(Motion other) {
            lower.copyFrom(other.lower);
            upper.copyFrom(other.upper);
            System.arraycopy(other.numbers, 0, numbers, 0, NUMBERS);
            triggers = other.triggers;
        }

        void reset() {
            lower.reset();
            upper.reset();
            Arrays.fill(numbers, 0);
            triggers = 0;
        }

        Layer layerAt(int layer) {
            return layer == 0 ? lower : upper;
        }

        boolean isTriggered(int trigger) {
            return (triggers >> trigger & 1) == 1;
        }

        void trigger(int trigger) {
            triggers |= 1 << trigger;
        }

        void release(int trigger) {
            triggers &= ~(1 << trigger);
        }

        /** One FRAME: the lower LAYER first, so that it may use up a TRIGGER before the upper one sees it. */
        void goOn(Figure figure) {
            lower.goOn(figure, this);
            upper.goOn(figure, this);
        }
    }

    private static final class Layer {
        private int state;
        private int lasted;
        private int blendWay = NONE;
        private int blendFrames;
        private int blendDone;
        private final float[] shares = new float[MOST_STATES];
        private final float[] sharesBefore = new float[MOST_STATES];

        Layer() {
            shares[0] = 1f;
        }

        void copyFrom(Layer other) {
            state = other.state;
            lasted = other.lasted;
            blendWay = other.blendWay;
            blendFrames = other.blendFrames;
            blendDone = other.blendDone;
            System.arraycopy(other.shares, 0, shares, 0, MOST_STATES);
            System.arraycopy(other.sharesBefore, 0, sharesBefore, 0, MOST_STATES);
        }

        void reset() {
            state = 0;
            lasted = 0;
            settle();
        }

        boolean isSteady() {
            return blendWay == NONE;
        }

        int part(int what) {
            switch (what) {
                case 0: return state;
                case 1: return lasted;
                case 2: return blendFrames;
                case 3: return blendDone;
                case 4: return isSteady() ? 1 : 0;
                default: return blendWay;
            }
        }

        void goOn(Figure figure, Motion motion) {
            if (isSteady() || figure.part(blendWay, BREAKS) == 1) {
                takeFirstWay(figure, motion);
            }
            lasted = Math.min(lasted + 1, MOST_LASTED);
            if (!isSteady()) {
                blend();
            }
        }

        private void takeFirstWay(Figure figure, Motion motion) {
            for (int way = 0; way < figure.ways; way++) {
                if (isOpen(figure, way, motion)) {
                    if (figure.part(way, CONDITION) == TRIGGER) {
                        motion.release(figure.part(way, SUBJECT));
                    }
                    begin(way, figure.part(way, TO), figure.part(way, FRAMES));
                    return;
                }
            }
        }

        private boolean isOpen(Figure figure, int way, Motion motion) {
            return figure.leadsFrom(way, state) && figure.part(way, TO) != state && holds(figure, way, motion);
        }

        private boolean holds(Figure figure, int way, Motion motion) {
            int subject = figure.part(way, SUBJECT);
            int limit = figure.part(way, LIMIT);
            switch (figure.part(way, CONDITION)) {
                case AFTER: return lasted >= limit;
                case OVER: return motion.numbers[subject] > limit;
                case UNDER: return motion.numbers[subject] < limit;
                default: return motion.isTriggered(subject);
            }
        }

        private void begin(int way, int to, int frames) {
            state = to;
            lasted = 0;
            if (frames == 0) {
                settle();
                return;
            }
            blendWay = way;
            blendFrames = frames;
            blendDone = 0;
            System.arraycopy(shares, 0, sharesBefore, 0, MOST_STATES);
        }

        private void blend() {
            blendDone++;
            if (blendDone >= blendFrames) {
                settle();
                return;
            }
            float u = (float) blendDone / (float) blendFrames;
            for (int i = 0; i < MOST_STATES; i++) {
                float faded = sharesBefore[i] * (1f - u);
                shares[i] = i == state ? faded + u : faded;
            }
        }

        private void settle() {
            blendWay = NONE;
            blendFrames = 0;
            blendDone = 0;
            Arrays.fill(shares, 0f);
            shares[state] = 1f;
        }

        float sumOfShares(int states) {
            float sum = 0f;
            for (int i = 0; i < states; i++) {
                sum = sum + shares[i];
            }
            return sum;
        }

        float limbOf(Figure figure, int limb) {
            float sum = 0f;
            for (int i = 0; i < figure.states; i++) {
                float quarter = (float) figure.values[i * LIMBS + limb] / 4f;
                sum = sum + quarter * shares[i];
            }
            return sum;
        }
    }

    /** THE TEXT, and how it is read: a reading stops with the faulty TOKEN still the current one. */
    private static final class Text {
        private final char[] letters = new char[MOST_LETTERS];
        private int length;
        private int clauses;
        private int tokenStart;
        private int tokenEnd;
        /** The number that was read last. */
        private int amount;
        private final int[] stateValues = new int[LIMBS];

        /** Does the CLAUSES on a figure as they are read: the place of the FAULT, or NONE. */
        int readOnto(Figure draft) {
            tokenEnd = 0;
            advance();
            for (clauses = 1; clauses <= MOST_CLAUSES; clauses++) {
                if (!readClause(draft)) {
                    return tokenStart;
                }
                if (isAtEnd()) {
                    return NONE;
                }
                // A ; behind the last CLAUSE that there may be has nothing to stand between.
                if (clauses == MOST_CLAUSES || !isSign(';')) {
                    return tokenStart;
                }
                advance();
            }
            return tokenStart;
        }

        private boolean readClause(Figure draft) {
            if (isWord("figure")) {
                draft.reset();
                advance();
                return true;
            }
            if (isWord("state")) {
                return readState(draft);
            }
            if (isWord("way")) {
                return readWay(draft) && readCondition(draft);
            }
            if (isWord("breaking")) {
                return readBreaking(draft);
            }
            return isWord("mask") && readMask(draft);
        }

        private boolean readState(Figure draft) {
            if (draft.states >= MOST_STATES) {
                return false;
            }
            advance();
            for (int limb = 0; limb < LIMBS; limb++) {
                if (!readSigned()) {
                    return false;
                }
                stateValues[limb] = amount;
            }
            System.arraycopy(stateValues, 0, draft.values, draft.states * LIMBS, LIMBS);
            draft.states++;
            return true;
        }

        /** From, to and FRAMES of the next WAY, which is one of the figure only behind its CONDITION. */
        private boolean readWay(Figure draft) {
            if (draft.ways >= MOST_WAYS) {
                return false;
            }
            advance();
            int way = draft.ways;
            if (!readUpTo(numberHere() == ANY_STATE ? ANY_STATE : draft.states - 1)) {
                return false;
            }
            draft.putPart(way, FROM, amount);
            if (!readUpTo(draft.states - 1)) {
                return false;
            }
            draft.putPart(way, TO, amount);
            if (!readFrames()) {
                return false;
            }
            draft.putPart(way, FRAMES, amount);
            draft.putPart(way, BREAKS, 0);
            return true;
        }

        private boolean readCondition(Figure draft) {
            int condition = conditionHere();
            if (condition == NONE) {
                return false;
            }
            advance();
            int subject = 0;
            if (condition != AFTER) {
                if (!readUpTo(condition == TRIGGER ? TRIGGERS - 1 : NUMBERS - 1)) {
                    return false;
                }
                subject = amount;
            }
            int limit = 0;
            if (condition != TRIGGER) {
                boolean isRead = condition == AFTER ? readUpTo(MOST_VALUE) : readSigned();
                if (!isRead) {
                    return false;
                }
                limit = amount;
            }
            draft.putPart(draft.ways, CONDITION, condition);
            draft.putPart(draft.ways, SUBJECT, subject);
            draft.putPart(draft.ways, LIMIT, limit);
            draft.ways++;
            return true;
        }

        private int conditionHere() {
            if (isWord("after")) {
                return AFTER;
            }
            if (isWord("over")) {
                return OVER;
            }
            if (isWord("under")) {
                return UNDER;
            }
            return isWord("trigger") ? TRIGGER : NONE;
        }

        private boolean readBreaking(Figure draft) {
            if (draft.ways == 0) {
                return false;
            }
            draft.putPart(draft.ways - 1, BREAKS, 1);
            advance();
            return true;
        }

        private boolean readMask(Figure draft) {
            advance();
            if (!readUpTo((1 << LIMBS) - 1)) {
                return false;
            }
            int mask = amount;
            if (!readUpTo(FULL_WEIGHT)) {
                return false;
            }
            draft.mask = mask;
            draft.weight = amount;
            return true;
        }

        private boolean readFrames() {
            int number = numberHere();
            // FRAMES are 0 or a power of two, so that DONE by FRAMES has no rounding.
            boolean isZeroOrPower = number >= 0 && (number & (number - 1)) == 0;
            return isZeroOrPower && readUpTo(MOST_FRAMES);
        }

        private boolean readSigned() {
            boolean isBelow = isSign('-');
            if (isBelow) {
                advance();
            }
            if (!readUpTo(MOST_VALUE)) {
                return false;
            }
            amount = isBelow ? -amount : amount;
            return true;
        }

        private boolean readUpTo(int most) {
            int number = numberHere();
            if (number < 0 || number > most) {
                return false;
            }
            amount = number;
            advance();
            return true;
        }

        /** The number that the current TOKEN is, or NONE. */
        private int numberHere() {
            int size = tokenEnd - tokenStart;
            if (size < 1 || size > 2) {
                return NONE;
            }
            char first = letters[tokenStart];
            if (first < '0' || first > '9') {
                return NONE;
            }
            return size == 1 ? first - '0' : (first - '0') * 10 + letters[tokenStart + 1] - '0';
        }

        private boolean isWord(String word) {
            if (tokenEnd - tokenStart != word.length()) {
                return false;
            }
            for (int i = 0; i < word.length(); i++) {
                if (letters[tokenStart + i] != word.charAt(i)) {
                    return false;
                }
            }
            return true;
        }

        private boolean isSign(char sign) {
            return tokenEnd - tokenStart == 1 && letters[tokenStart] == sign;
        }

        private boolean isAtEnd() {
            return tokenStart >= length;
        }

        private void advance() {
            tokenStart = tokenEnd;
            while (tokenStart < length && letters[tokenStart] == ' ') {
                tokenStart++;
            }
            tokenEnd = tokenStart;
            if (tokenStart >= length) {
                return;
            }
            char first = letters[tokenStart];
            boolean isNumber = first >= '0' && first <= '9';
            char lowest = isNumber ? '0' : 'a';
            char highest = isNumber ? '9' : 'z';
            tokenEnd++;
            if (first < lowest || first > highest) {
                return;
            }
            while (tokenEnd < length && letters[tokenEnd] >= lowest && letters[tokenEnd] <= highest) {
                tokenEnd++;
            }
        }
    }

    /** A row of places; a mark is its number, of a STROKE 1000 more, and EMPTY where there is none. */
    private static final class Shelf {
        private boolean isMissing = true;
        private int madeFor;
        private int places;
        private final int[] marks = new int[MOST_PLACES];

        void makeNew(int sort, int n) {
            isMissing = false;
            madeFor = sort;
            places = n;
            Arrays.fill(marks, EMPTY);
        }

        void remove() {
            makeNew(0, 0);
            isMissing = true;
        }

        void copyFrom(Shelf other) {
            isMissing = other.isMissing;
            madeFor = other.madeFor;
            places = other.places;
            System.arraycopy(other.marks, 0, marks, 0, MOST_PLACES);
        }

        boolean hasPlace(int i) {
            return i >= 0 && i < places;
        }

        boolean takes(int mark) {
            return madeFor == 0 || madeFor == (mark < MARK_NUMBERS ? DOTS : STROKES);
        }

        int refusalOf(int i, int mark) {
            if (isMissing) {
                return NULL;
            }
            if (!hasPlace(i)) {
                return INDEX;
            }
            return takes(mark) ? NONE : STORE;
        }

        int markAt(int i) {
            if (isMissing) {
                return NULL;
            }
            return hasPlace(i) ? marks[i] : INDEX;
        }

        int things() {
            int sum = 0;
            for (int i = 0; i < places; i++) {
                sum += marks[i] >= 0 ? 1 : 0;
            }
            return sum;
        }
    }
}
