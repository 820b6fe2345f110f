import java.util.Arrays;

/**
 * A printed web held in register: a text tells units and reels, ticks run the band through them,
 * a camera judges the copies and corrects the units. What each call promises stands in DOC.md.
 */
public final class SplicedWeb {
    public static final int BAD = -1, STATE = -2, FULL = -3, NONE = -9;
    public static final int NO = -1000000, NOT = -2000000;

    private static final int MOST_UNITS = 4;
    private static final int MOST_REELS = 8;
    private static final int MOST_LETTERS = 120;
    private static final int MOST_SEEN = 6;
    private static final int MOST_UNDONE = 6;
    private static final int MOST_TICKS = 60;
    private static final int MOST_TICKS_EVER = 9999;
    private static final int MOST_AMOUNT = 20;
    private static final int MOST_SEEN_AMOUNT = 99;
    private static final int IMAGES = 2;
    private static final int STEADY_BY = 200;
    private static final int STEADY_TICKS = 300;
    private static final int COST_TICKS = 200;
    /** More copies than any trial of what comes can use up. */
    private static final int FOR_EVER = 1000;

    private final Text text = new Text();
    private Plan plan = new Plan();
    private Plan draft = new Plan();
    private final Press press = new Press();
    private final Press trial = new Press();
    private final History history = new History();
    private final Press[] images = new Press[IMAGES];
    private final boolean[] isKept = new boolean[IMAGES];
    private final Clues clues = new Clues();

    public SplicedWeb() {
        for (int i = 0; i < IMAGES; i++) {
            images[i] = new Press();
        }
        press.setAsAtFirst(plan);
    }

    // ---- what is told

    public int type(int letter) {
        if (!isWithin(letter, 0, 255)) {
            return BAD;
        }
        return text.add(letter) ? text.length : FULL;
    }

    public int clear() {
        int had = text.length;
        text.length = 0;
        return had;
    }

    public int tells() {
        int answer = text.readInto(draft);
        if (answer < 0) {
            return answer;
        }
        Plan older = plan;
        plan = draft;
        draft = older;
        text.length = 0;
        press.setAsAtFirst(plan);
        history.known = 0;
        clues.known = 0;
        for (int i = 0; i < IMAGES; i++) {
            isKept[i] = false;
        }
        return answer;
    }

    // ---- what is done

    public int ticks(int n) {
        if (!isWithin(n, 1, MOST_TICKS)) {
            return BAD;
        }
        if (!press.runs) {
            return STATE;
        }
        if (press.ticksEver + n > MOST_TICKS_EVER) {
            return FULL;
        }
        history.remember(press);
        int goodBefore = press.good;
        for (int i = 0; i < n && press.runs; i++) {
            press.tick(plan);
        }
        return press.good - goodBefore;
    }

    public int drifts(int unit, int off) {
        if (!plan.isMovable(unit) || !isWithin(off, -MOST_AMOUNT, MOST_AMOUNT)) {
            return BAD;
        }
        if (press.off[unit] == off) {
            return STATE;
        }
        history.remember(press);
        press.off[unit] = off;
        return 1;
    }

    public int corrects(int unit, int c) {
        if (!plan.isMovable(unit) || !isWithin(c, -MOST_AMOUNT, MOST_AMOUNT) || c == 0) {
            return BAD;
        }
        history.remember(press);
        press.correct(plan, unit, c);
        return press.waits[unit];
    }

    public int spins() {
        int next = press.nextReel(plan);
        if (!press.runs || next == NONE || press.spun > 0) {
            return STATE;
        }
        history.remember(press);
        press.spun = 1;
        return next;
    }

    public int starts() {
        if (press.runs || press.nextReel(plan) == NONE) {
            return STATE;
        }
        history.remember(press);
        press.restart(plan);
        return press.on;
    }

    public int aheads(int is) {
        if (!isWithin(is, 0, 1)) {
            return BAD;
        }
        if (press.ahead == (is == 1)) {
            return STATE;
        }
        history.remember(press);
        press.ahead = is == 1;
        return 1;
    }

    public int undo() {
        if (history.known == 0) {
            return STATE;
        }
        history.restore(press);
        return history.known;
    }

    // ---- as it is

    public int unit(int k, int what) {
        if (!plan.hasUnit(k)) {
            return NO;
        }
        switch (what) {
            case 0: return plan.gap[k];
            case 1: return plan.way[k];
            case 2: return press.off[k];
            case 3: return press.shift[k];
            case 4: return press.waits[k];
            case 5: return press.toBePassed(k);
            default: return NO;
        }
    }

    public int reel(int r, int what) {
        if (!plan.hasReel(r)) {
            return NO;
        }
        switch (what) {
            case 0: return plan.copies[r];
            case 1: return plan.stretch[r];
            case 2: return press.leftOn(plan, r);
            default: return NO;
        }
    }

    public int last(int what) {
        if (!isWithin(what, 0, 6)) {
            return NO;
        }
        Band band = press.band;
        if (!band.hasCome) {
            return NOT;
        }
        switch (what) {
            case 0: return band.cameNumber;
            case 1: return band.cameSplice ? 1 : 0;
            case 2: return band.cameGood ? 1 : 0;
            default: return band.cameErrors[what - 3];
        }
    }

    public int error(int unit, int k) {
        if (!plan.hasUnit(unit) || k < 0) {
            return NO;
        }
        Band band = press.band;
        if (k >= band.underWay || k < plan.way[unit]) {
            return NOT;
        }
        return band.errorAt(k, unit);
    }

    // ---- what comes

    public int steady() {
        if (!press.runs || press.on == NONE) {
            return NONE;
        }
        trial.takeFrom(press);
        trial.left = FOR_EVER;
        int latestOut = 0;
        for (int t = 1; t <= STEADY_TICKS; t++) {
            if (trial.tick(plan) && trial.band.cameFurtherOutThan(plan.idle)) {
                latestOut = t;
            }
        }
        return latestOut <= STEADY_BY ? latestOut : NONE;
    }

    public int cost() {
        if (!press.runs || press.nextReel(plan) == NONE) {
            return NOT;
        }
        trial.takeFrom(press);
        trial.left = FOR_EVER;
        trial.tickTimes(plan, COST_TICKS);
        int wasteWithout = trial.waste;
        trial.takeFrom(press);
        trial.makeReadyToPaste(plan);
        trial.tick(plan);
        trial.left = FOR_EVER;
        trial.tickTimes(plan, COST_TICKS - 1);
        return trial.waste - wasteWithout;
    }

    // ---- what it was

    public int sees(int unit, int x) {
        if (!plan.isMovable(unit) || !isWithin(x, -MOST_SEEN_AMOUNT, MOST_SEEN_AMOUNT)) {
            return BAD;
        }
        return clues.add(unit, x) ? clues.known : FULL;
    }

    public int forget() {
        int had = clues.known;
        clues.known = 0;
        return had;
    }

    public int which() {
        return clues.causes(plan.units);
    }

    public int look() {
        return clues.bestUnit(plan.units);
    }

    // ---- images

    public int keep(int image) {
        if (!isWithin(image, 0, IMAGES - 1)) {
            return BAD;
        }
        images[image].takeFrom(press);
        isKept[image] = true;
        return press.ticksEver;
    }

    public int back(int image) {
        if (!isWithin(image, 0, IMAGES - 1)) {
            return BAD;
        }
        if (!isKept[image]) {
            return STATE;
        }
        press.takeFrom(images[image]);
        history.known = 0;
        return press.ticksEver;
    }

    public int count(int what) {
        switch (what) {
            case 0: return plan.units;
            case 1: return plan.reels;
            case 2: return press.ticksEver;
            case 3: return press.band.begun;
            case 4: return press.good;
            case 5: return press.waste;
            case 6: return press.band.underWay;
            case 7: return press.on;
            case 8: return press.nextReel(plan);
            case 9: return press.spun;
            case 10: return press.runs ? 1 : 0;
            case 11: return press.ahead ? 1 : 0;
            case 12: return press.splices;
            case 13: return plan.eye;
            case 14: return plan.limit;
            case 15: return plan.idle;
            case 16: return plan.spin;
            case 17: return clues.known;
            case 18: return text.length;
            case 19: return history.known;
            default: return BAD;
        }
    }

    private static boolean isWithin(int number, int low, int high) {
        return number >= low && number <= high;
    }

    /** What a text tells: it stays as it is till another text is told. */
    private static final class Plan {
        final int[] gap = new int[MOST_UNITS];
        final int[] way = new int[MOST_UNITS];
        final int[] copies = new int[MOST_REELS];
        final int[] stretch = new int[MOST_REELS];
        int units;
        int reels;
        int eye;
        int limit;
        int idle;
        int spin;

        Plan() {
            setAsAtFirst();
        }

        void setAsAtFirst() {
            units = 1;
            reels = 0;
            eye = 3;
            limit = 3;
            idle = 1;
            spin = 5;
        }

        void addUnit(int newGap) {
            if (isWithin(units, 1, MOST_UNITS - 1)) {
                gap[units] = newGap;
                way[units] = way[units - 1] + newGap;
                units++;
            }
        }

        void addReel(int newCopies, int newStretch) {
            if (isWithin(reels, 0, MOST_REELS - 1)) {
                copies[reels] = newCopies;
                stretch[reels] = newStretch;
                reels++;
            }
        }

        boolean hasUnit(int k) {
            return k >= 0 && k < units;
        }

        /** UNIT 0 is what the others are measured by: it is never moved. */
        boolean isMovable(int k) {
            return k >= 1 && k < units;
        }

        boolean hasReel(int r) {
            return r >= 0 && r < reels;
        }

        int ticksToCameraFrom(int k) {
            return way[units - 1] - way[k] + eye;
        }
    }

    /** The text as it is typed, and its reading token by token. */
    private static final class Text {
        private static final int FIRST_FAULT = -10;
        private static final int MOST_FIGURES_TELL = 99;
        /** Kinds of token beyond all letters; a letter is its own kind. */
        private static final int NUMBER = 256, END = 257, WRONG = 258;

        final int[] letters = new int[MOST_LETTERS];
        int length;
        private int at;
        private int tokenStart;
        private int kind;
        private int value;
        private int toldBits;

        boolean add(int letter) {
            if (length >= MOST_LETTERS) {
                return false;
            }
            letters[length] = letter;
            length++;
            return true;
        }

        /** How many ITEMS, or -10 less FAULT. */
        int readInto(Plan target) {
            target.setAsAtFirst();
            at = 0;
            toldBits = 0;
            int items = 0;
            stepOn();
            while (kind != END && items < MOST_LETTERS) {
                if (!readItem(target)) {
                    return FIRST_FAULT - tokenStart;
                }
                items++;
            }
            return items;
        }

        /** Where it answers false, the token that can't stand is the one at hand. */
        private boolean readItem(Plan target) {
            int letter = kind;
            if (!mayBegin(target, letter)) {
                return false;
            }
            stepOn();
            boolean isRead = letter == 'r' ? readReel(target) : readSetting(target, letter);
            if (!isRead || kind != ';') {
                return false;
            }
            stepOn();
            return true;
        }

        private boolean mayBegin(Plan target, int letter) {
            if (letter == 'u') {
                return target.units < MOST_UNITS;
            }
            if (letter == 'r') {
                return target.reels < MOST_REELS;
            }
            int bit = onceBit(letter);
            if (bit == 0 || (toldBits & bit) != 0) {
                return false;
            }
            toldBits |= bit;
            return true;
        }

        /** A bit for each letter that may be told once at most; 0 of what is no such letter. */
        private static int onceBit(int letter) {
            switch (letter) {
                case 'e': return 1;
                case 'l': return 2;
                case 'i': return 4;
                case 'p': return 8;
                default: return 0;
            }
        }

        private boolean readReel(Plan target) {
            int copies = takeNumber(1, 99);
            if (copies < 0) {
                return false;
            }
            boolean isBelow = kind == '-';
            if (isBelow) {
                stepOn();
            }
            int stretch = takeNumber(0, 9);
            if (stretch < 0) {
                return false;
            }
            target.addReel(copies, isBelow ? -stretch : stretch);
            return true;
        }

        private boolean readSetting(Plan target, int letter) {
            int low = letter == 'i' ? 0 : 1;
            int number = takeNumber(low, highest(letter));
            if (number < 0) {
                return false;
            }
            switch (letter) {
                case 'u': target.addUnit(number); break;
                case 'e': target.eye = number; break;
                case 'l': target.limit = number; break;
                case 'i': target.idle = number; break;
                default: target.spin = number; break;
            }
            return true;
        }

        private static int highest(int letter) {
            switch (letter) {
                case 'u': return 6;
                case 'e': return 9;
                case 'i': return 9;
                default: return 20;
            }
        }

        /** The number at hand, and on to the next token; -1 if none within these is at hand. */
        private int takeNumber(int low, int high) {
            if (kind != NUMBER || !isWithin(value, low, high)) {
                return -1;
            }
            int taken = value;
            stepOn();
            return taken;
        }

        private void stepOn() {
            while (at < length && letters[at] == ' ') {
                at++;
            }
            tokenStart = at;
            if (at >= length) {
                kind = END;
            } else if (isFigure(letters[at])) {
                stepOverNumber();
            } else {
                kind = letters[at];
                at++;
            }
        }

        private void stepOverNumber() {
            boolean startsWithZero = letters[at] == '0';
            value = 0;
            while (at < length && isFigure(letters[at])) {
                // Held just above the highest, so that a long row of figures can't wrap around.
                value = Math.min(value * 10 + letters[at] - '0', MOST_FIGURES_TELL + 1);
                at++;
            }
            boolean isZeroAhead = startsWithZero && at - tokenStart > 1;
            kind = value > MOST_FIGURES_TELL || isZeroAhead ? WRONG : NUMBER;
        }

        private static boolean isFigure(int letter) {
            return letter >= '0' && letter <= '9';
        }
    }

    /** The copies under way, newest last, and the one that came to the camera last. */
    private static final class Band {
        /** A power of two above 28, the most copies under way within a tick. */
        private static final int ROOM = 32;

        final int[] stretch = new int[ROOM];
        final int[] isSplice = new int[ROOM];
        final int[] shifted = new int[ROOM];
        final int[] errors = new int[ROOM * MOST_UNITS];
        int begun;
        int underWay;
        boolean hasCome;
        int cameNumber;
        boolean cameSplice;
        boolean cameGood;
        final int[] cameErrors = new int[MOST_UNITS];

        void setAsAtFirst() {
            begun = 0;
            underWay = 0;
            hasCome = false;
            Arrays.fill(errors, 0);
        }

        void takeFrom(Band other) {
            System.arraycopy(other.stretch, 0, stretch, 0, ROOM);
            System.arraycopy(other.isSplice, 0, isSplice, 0, ROOM);
            System.arraycopy(other.shifted, 0, shifted, 0, ROOM);
            System.arraycopy(other.errors, 0, errors, 0, ROOM * MOST_UNITS);
            begun = other.begun;
            underWay = other.underWay;
            hasCome = other.hasCome;
            cameNumber = other.cameNumber;
            cameSplice = other.cameSplice;
            cameGood = other.cameGood;
            System.arraycopy(other.cameErrors, 0, cameErrors, 0, MOST_UNITS);
        }

        /** The place of the copy that began so many ticks ahead of the newest. */
        private int placeOf(int age) {
            return (begun - 1 - age) & (ROOM - 1);
        }

        void begin(int itsStretch, boolean itIsSplice) {
            begun++;
            underWay++;
            int place = placeOf(0);
            stretch[place] = itsStretch;
            isSplice[place] = itIsSplice ? 1 : 0;
            shifted[place] = 0;
        }

        /** The shifts add up copy by copy, so that each counts as it was when that unit printed. */
        void print(int age, int k, int off, int shift) {
            if (age < underWay && isWithin(k, 0, MOST_UNITS - 1)) {
                int place = placeOf(age);
                shifted[place] += shift;
                errors[place * MOST_UNITS + k] = off + k * stretch[place] - shifted[place];
            }
        }

        int errorAt(int age, int k) {
            return isWithin(k, 0, MOST_UNITS - 1) ? errors[placeOf(age) * MOST_UNITS + k] : 0;
        }

        /** The oldest copy under way comes to the camera. */
        void come(int limit) {
            underWay--;
            int place = placeOf(underWay);
            hasCome = true;
            cameNumber = begun - 1 - underWay;
            cameSplice = isSplice[place] == 1;
            System.arraycopy(errors, place * MOST_UNITS, cameErrors, 0, MOST_UNITS);
            cameGood = !cameSplice && !cameFurtherOutThan(limit);
        }

        boolean cameFurtherOutThan(int bound) {
            for (int k = 1; k < MOST_UNITS; k++) {
                if (Math.abs(cameErrors[k]) > bound) {
                    return true;
                }
            }
            return false;
        }
    }

    /** All that part 2 of the document tells: what is undone and what an image keeps. */
    private static final class Press {
        /** A power of two above 7, the most ticks that something waits to be passed ahead. */
        private static final int PASS_ROOM = 8;

        final int[] off = new int[MOST_UNITS];
        final int[] shift = new int[MOST_UNITS];
        final int[] waits = new int[MOST_UNITS];
        final int[] passes = new int[MOST_UNITS * PASS_ROOM];
        final Band band = new Band();
        int on;
        int left;
        int spun;
        boolean runs;
        boolean ahead;
        int ticksEver;
        int good;
        int waste;
        int splices;

        void setAsAtFirst(Plan plan) {
            Arrays.fill(off, 0);
            Arrays.fill(shift, 0);
            Arrays.fill(waits, 0);
            Arrays.fill(passes, 0);
            band.setAsAtFirst();
            on = plan.reels > 0 ? 0 : NONE;
            left = plan.reels > 0 ? plan.copies[0] : 0;
            spun = 0;
            runs = true;
            ahead = true;
            ticksEver = 0;
            good = 0;
            waste = 0;
            splices = 0;
        }

        void takeFrom(Press other) {
            System.arraycopy(other.off, 0, off, 0, MOST_UNITS);
            System.arraycopy(other.shift, 0, shift, 0, MOST_UNITS);
            System.arraycopy(other.waits, 0, waits, 0, MOST_UNITS);
            System.arraycopy(other.passes, 0, passes, 0, MOST_UNITS * PASS_ROOM);
            band.takeFrom(other.band);
            on = other.on;
            left = other.left;
            spun = other.spun;
            runs = other.runs;
            ahead = other.ahead;
            ticksEver = other.ticksEver;
            good = other.good;
            waste = other.waste;
            splices = other.splices;
        }

        int nextReel(Plan plan) {
            return on != NONE && plan.hasReel(on + 1) ? on + 1 : NONE;
        }

        /** A reel goes off only when none is left on it, so one behind has 0. */
        int leftOn(Plan plan, int r) {
            if (r == on) {
                return left;
            }
            return r > on && plan.hasReel(r) ? plan.copies[r] : 0;
        }

        int toBePassed(int k) {
            int sum = 0;
            for (int i = 0; i < PASS_ROOM; i++) {
                sum += passes[passPlace(k, i)];
            }
            return sum;
        }

        private static int passPlace(int k, int tick) {
            return (k & (MOST_UNITS - 1)) * PASS_ROOM + (tick & (PASS_ROOM - 1));
        }

        void correct(Plan plan, int k, int c) {
            if (!plan.isMovable(k)) {
                return;
            }
            shift[k] += c;
            waits[k] = plan.ticksToCameraFrom(k);
            int behind = k + 1;
            if (ahead && plan.hasUnit(behind)) {
                passes[passPlace(behind, ticksEver + 1 + plan.gap[behind])] -= c;
            }
        }

        void tickTimes(Plan plan, int times) {
            for (int i = 0; i < times; i++) {
                tick(plan);
            }
        }

        /** One tick of a press that runs: whether a copy came to the camera. */
        boolean tick(Plan plan) {
            ticksEver++;
            boolean isSplice = left == 0;
            if (isSplice) {
                if (!canPaste(plan)) {
                    breakOff();
                    return false;
                }
                mountNext(plan);
                splices++;
            }
            left--;
            band.begin(plan.hasReel(on) ? plan.stretch[on] : 0, isSplice);
            print(plan);
            boolean comes = band.underWay > plan.ticksToCameraFrom(0);
            if (comes) {
                judge(plan);
                adjust(plan);
            }
            if (spun > 0) {
                spun++;
            }
            return comes;
        }

        /** SPIN is 1 at least: what has been spun for so long is spun. */
        private boolean canPaste(Plan plan) {
            return nextReel(plan) != NONE && spun >= plan.spin;
        }

        void makeReadyToPaste(Plan plan) {
            left = 0;
            spun = plan.spin;
        }

        private void mountNext(Plan plan) {
            int next = nextReel(plan);
            if (next != NONE) {
                on = next;
                left = plan.copies[next];
                spun = 0;
            }
        }

        private void breakOff() {
            runs = false;
            waste += band.underWay;
            band.underWay = 0;
            Arrays.fill(passes, 0);
        }

        void restart(Plan plan) {
            mountNext(plan);
            runs = true;
            Arrays.fill(waits, 0);
        }

        private void print(Plan plan) {
            for (int k = 1; k < plan.units; k++) {
                int place = passPlace(k, ticksEver);
                shift[k] += passes[place];
                passes[place] = 0;
                band.print(plan.way[k], k, off[k], shift[k]);
            }
        }

        private void judge(Plan plan) {
            band.come(plan.limit);
            if (band.cameGood) {
                good++;
            } else {
                waste++;
            }
        }

        private void adjust(Plan plan) {
            for (int k = 1; k < plan.units; k++) {
                int seen = band.cameErrors[k];
                if (waits[k] > 0) {
                    waits[k]--;
                } else if (Math.abs(seen) > plan.idle && !band.cameSplice) {
                    correct(plan, k, seen);
                }
            }
        }
    }

    /** The press as it was ahead of the latest calls that did something. */
    private static final class History {
        private final Press[] rows = new Press[MOST_UNDONE];
        private int newest;
        int known;

        History() {
            for (int i = 0; i < MOST_UNDONE; i++) {
                rows[i] = new Press();
            }
        }

        void remember(Press press) {
            newest = newest + 1 < MOST_UNDONE ? newest + 1 : 0;
            rows[newest].takeFrom(press);
            known = Math.min(known + 1, MOST_UNDONE);
        }

        void restore(Press press) {
            if (known > 0) {
                press.takeFrom(rows[newest]);
                newest = newest > 0 ? newest - 1 : MOST_UNDONE - 1;
                known--;
            }
        }
    }

    /** What was seen of a cause that is not known, and what may have been the cause. */
    private static final class Clues {
        private static final int CAUSES = 7;
        private static final int FIRST_SHIFT_CAUSE = 4;

        private final int[] places = new int[MOST_SEEN];
        private final int[] amounts = new int[MOST_SEEN];
        int known;

        boolean add(int place, int amount) {
            if (known >= MOST_SEEN) {
                return false;
            }
            places[known] = place;
            amounts[known] = amount;
            known++;
            return true;
        }

        int causes(int units) {
            int bits = 0;
            for (int cause = 0; cause < CAUSES; cause++) {
                if (unitOf(cause) < units && fitsAny(cause)) {
                    bits |= 1 << cause;
                }
            }
            return bits;
        }

        int bestUnit(int units) {
            int bits = causes(units);
            int all = Integer.bitCount(bits);
            int best = NONE;
            int leastWorst = CAUSES + 1;
            for (int k = 1; k < units && all > 1; k++) {
                int silent = silentAt(bits, k);
                int worst = Math.max(silent, all - silent);
                if (worst < leastWorst) {
                    leastWorst = worst;
                    best = k;
                }
            }
            return best;
        }

        /** The unit that a cause is of; a stretch is of none, so it is always there. */
        private static int unitOf(int cause) {
            return cause < FIRST_SHIFT_CAUSE ? cause : cause - FIRST_SHIFT_CAUSE + 1;
        }

        private boolean fitsAny(int cause) {
            for (int size = -MOST_AMOUNT; size <= MOST_AMOUNT; size++) {
                if (size != 0 && fits(cause, size)) {
                    return true;
                }
            }
            return false;
        }

        private boolean fits(int cause, int size) {
            for (int i = 0; i < known; i++) {
                if (effect(cause, places[i], size) != amounts[i]) {
                    return false;
                }
            }
            return true;
        }

        private static int silentAt(int bits, int k) {
            int silent = 0;
            for (int cause = 0; cause < CAUSES; cause++) {
                // Whether it is 0 is the same for every size but 0, so 1 stands for all.
                if ((bits & (1 << cause)) != 0 && effect(cause, k, 1) == 0) {
                    silent++;
                }
            }
            return silent;
        }

        private static int effect(int cause, int k, int size) {
            if (cause == 0) {
                return k * size;
            }
            boolean isMoved = cause < FIRST_SHIFT_CAUSE ? k == cause : k >= unitOf(cause);
            return isMoved ? size : 0;
        }
    }
}
