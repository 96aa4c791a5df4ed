import java.util.Arrays;

/** A hanging whose back still tells; ../shared/DOC.md says what each call answers. */
public final class ClothBack {
    public static final int NONE = -1;
    public static final int RANGE = -2;
    public static final int FULL = -3;
    public static final int STATE = -4;

    private static final int GONE = -5;
    private static final int MOST_STEP = 999;
    private static final int MOST_HOURS = 999999;
    private static final int MOST_LAMP = 999;
    private static final int MOST_BACK = 1999;
    private static final int MOST_BEAR = 400;
    private static final int MOST_CELLS = 48;
    private static final int UNKNOWN_SHADE = 50;
    // More than any sum of colours, lights or differences can be.
    private static final int FAR = 1000000;

    private final Tape tape;
    private final ClothReader reader;
    private final Yarn yarn;
    private Cloth spare;
    private final Telling telling;
    private final Telling[] slots;
    private final Fit fitted;
    private final Fit otherFitted;
    private final Hairs hairs;
    private final Projector projector;
    private final Chance chance;
    private final int[] sure;

    public ClothBack() {
        tape = new Tape();
        yarn = new Yarn(new Cloth());
        spare = new Cloth();
        reader = new ClothReader(tape, spare);
        telling = new Telling();
        slots = new Telling[3];
        for (int i = 0; i < slots.length; i++) {
            slots[i] = new Telling();
        }
        fitted = new Fit(yarn, telling);
        otherFitted = new Fit(yarn, telling);
        hairs = new Hairs();
        projector = new Projector();
        chance = new Chance();
        sure = new int[MOST_CELLS];
    }

    // ---- the tape

    public int feed(int a, int b, int c, int d, int e) {
        if (tape.length + 20 > Tape.MOST) {
            return FULL;
        }
        tape.addFour(a);
        tape.addFour(b);
        tape.addFour(c);
        tape.addFour(d);
        tape.addFour(e);
        return tape.length;
    }

    public int end(int n) {
        if (n < 0 || n > tape.length) {
            return NONE;
        }
        tape.length = n;
        return n;
    }

    // ---- the cloth

    public int cloth() {
        reader.begin(spare);
        boolean isWhole = true;
        while (isWhole && spare.clauses < Tape.MOST && reader.hasMore()) {
            isWhole = reader.readClause();
            spare.clauses++;
        }
        tape.length = 0;
        if (!isWhole) {
            return NONE;
        }
        Cloth old = yarn.cloth;
        yarn.spin(spare);
        spare = old;
        telling.clear();
        for (int i = 0; i < slots.length; i++) {
            slots[i].isKept = false;
        }
        return yarn.cloth.clauses;
    }

    public int fault(int what) {
        if (what == 0) {
            return reader.faultKind;
        }
        return what == 1 ? reader.faultPlace : NONE;
    }

    public int told(int what) {
        Cloth cloth = yarn.cloth;
        if (what >= 0 && what < 10) {
            return cloth.numberTold(what);
        }
        if (isWithin(what - 10, 0, 2)) {
            return cloth.bright[what - 10];
        }
        if (isWithin(what - 20, 0, cloth.menders - 1)) {
            return cloth.menderYears[what - 20];
        }
        if (isWithin(what - 30, 0, cloth.tales - 1)) {
            return cloth.hangs[what - 30];
        }
        if (isWithin(what - 40, 0, cloth.tales - 1)) {
            return cloth.yearsOf(what - 40);
        }
        return NONE;
    }

    public int strength(int stuff, int h) {
        if (!isWithin(stuff, 0, yarn.cloth.stuffs - 1) || !isWithin(h, 0, MOST_HOURS)) {
            return RANGE;
        }
        return yarn.cloth.strengthOf(stuff, h);
    }

    public int hours(int story, int column, int year, int side) {
        boolean isGood = isStory(story) && isWithin(column, 0, yarn.cloth.columns - 1)
                && isWithin(year, 0, 999) && isSide(side);
        return isGood ? yarn.cloth.hoursOf(story, column, year, side) : RANGE;
    }

    public int thread(int first, int a, int second, int b) {
        int lastStuff = yarn.cloth.stuffs - 1;
        if (!isWithin(first, 0, lastStuff) || !isWithin(a, 1, 9)) {
            return RANGE;
        }
        int one = Yarn.rowOf(first, a);
        if (second == NONE) {
            return yarn.numberOf(one, Yarn.NO_ROW);
        }
        if (!isWithin(second, first + 1, lastStuff) || !isWithin(b, 1, 9)) {
            return RANGE;
        }
        return yarn.numberOf(one, Yarn.rowOf(second, b));
    }

    public int colour(int thread, int h, int c) {
        boolean isGood = isThread(thread) && isWithin(h, 0, MOST_HOURS) && isColour(c);
        return isGood ? yarn.shadeOf(thread, h, c) : RANGE;
    }

    // ---- looks

    public int look(int told, int cell, int side, int a, int b, int c) {
        if (!mayTell(told) || !isCell(cell) || !isSide(side) || !areShades(a, b, c)) {
            return RANGE;
        }
        if (telling.looks >= Telling.MOST_LOOKS) {
            return FULL;
        }
        telling.addLook(told, cell, side, a, b, c);
        return telling.looks;
    }

    public int gone(int told, int cell, int side) {
        if (!mayTell(told) || !isCell(cell) || !isSide(side)) {
            return RANGE;
        }
        if (telling.looks >= Telling.MOST_LOOKS) {
            return FULL;
        }
        telling.addLook(told, cell, side, GONE, GONE, GONE);
        return telling.looks;
    }

    public int attempt(int told, int cell, int hours, int a, int b, int c) {
        if (!mayTell(told) || !isCell(cell) || !isWithin(hours, 1, MOST_LAMP) || !areShades(a, b, c)) {
            return RANGE;
        }
        if (telling.tried >= Telling.MOST_TRIED) {
            return FULL;
        }
        telling.addTried(told, cell, hours, a, b, c);
        return telling.tried - 1;
    }

    public int right(int told, int k, int a, int b, int c) {
        if (!mayTell(told) || !isWithin(k, 0, telling.tried - 1) || !areShades(a, b, c)) {
            return RANGE;
        }
        if (telling.rights >= Telling.MOST_RIGHTS) {
            return FULL;
        }
        telling.addRight(told, k, a, b, c);
        return telling.rightsOf(k);
    }

    public int shows(int cell, int side, int known, int c) {
        if (!isCell(cell) || !isSide(side) || !isStep(known) || !isColour(c)) {
            return RANGE;
        }
        return telling.lookShade(telling.latestLook(cell, side, known), c);
    }

    public int keep(int slot) {
        if (!isWithin(slot, 0, slots.length - 1)) {
            return RANGE;
        }
        slots[slot].copyFrom(telling);
        slots[slot].isKept = true;
        return telling.looks;
    }

    public int take(int slot) {
        if (!isWithin(slot, 0, slots.length - 1)) {
            return RANGE;
        }
        if (!slots[slot].isKept) {
            return STATE;
        }
        telling.copyFrom(slots[slot]);
        return telling.looks;
    }

    // ---- what fits

    public int fit(int cell, int story, int known, int what) {
        if (!mayFit(cell, story, known) || !isWithin(what, 0, 3)) {
            return RANGE;
        }
        fitted.find(cell, story, known);
        switch (what) {
            case 0:
                return fitted.pairs;
            case 1:
                return fitted.threads;
            case 2:
                return fitted.leastThread;
            default:
                return fitted.pairPart(0, false);
        }
    }

    public int pair(int cell, int story, int known, int i, int what) {
        if (!mayFit(cell, story, known) || i < 0 || !isWithin(what, 0, 1)) {
            return RANGE;
        }
        fitted.find(cell, story, known);
        return fitted.pairPart(i, what == 0);
    }

    public int was(int cell, int story, int known, int c, boolean greatest) {
        if (!mayFit(cell, story, known) || !isColour(c)) {
            return RANGE;
        }
        fitted.find(cell, story, known);
        if (fitted.pairs == 0) {
            return NONE;
        }
        fitted.measureSpan();
        return greatest ? fitted.spanMost[c] : fitted.spanLeast[c];
    }

    public int grey(int cell, int story, int known, int bound, int c) {
        if (!mayFit(cell, story, known) || !isWithin(bound, 0, 99) || !isColour(c)) {
            return RANGE;
        }
        fitted.find(cell, story, known);
        fitted.measureSpan();
        return fitted.greyShade(bound, c);
    }

    public int mended(int cell, int story, int known) {
        if (!mayFit(cell, story, known)) {
            return RANGE;
        }
        fitted.find(cell, story, known);
        if (fitted.pairs == 0) {
            return NONE;
        }
        if (fitted.firstPairs == fitted.pairs) {
            return 0;
        }
        return fitted.firstPairs == 0 ? 1 : 2;
    }

    public int lightBack(int cell, int side, int thread, int known, boolean greatest) {
        if (!isCell(cell) || !isSide(side) || !isThread(thread) || !isStep(known)) {
            return RANGE;
        }
        int look = telling.latestLook(cell, side, known);
        if (!telling.isSeen(look)) {
            return NONE;
        }
        int least = hoursPast(thread, look, -yarn.cloth.slack);
        int past = hoursPast(thread, look, yarn.cloth.slack + 1);
        if (!isWithinSlack(thread, look, least)) {
            return NONE;
        }
        return greatest ? past - 1 : least;
    }

    public int stories(int known) {
        if (!isStep(known)) {
            return RANGE;
        }
        int bits = 0;
        for (int story = 0; story < yarn.cloth.tales; story++) {
            if (mayBe(story, known)) {
                bits |= 1 << story;
            }
        }
        return bits;
    }

    public int vat(int a, int b, int story, int known, boolean isLower) {
        if (!mayFit(a, story, known) || !isCell(b) || a == b) {
            return RANGE;
        }
        fitted.find(a, story, known);
        otherFitted.find(b, story, known);
        int both = 0;
        int either = 0;
        for (int thread = 0; thread < yarn.threads; thread++) {
            boolean isOfA = fitted.years[thread] != 0;
            boolean isOfB = otherFitted.years[thread] != 0;
            both += isOfA && isOfB ? 1 : 0;
            either += isOfA || isOfB ? 1 : 0;
        }
        if (both == 0) {
            return isLower ? 1 : 0;
        }
        int common = commonDivisor(both, either);
        return isLower ? either / common : both / common;
    }

    public int vats(int story, int known) {
        if (!isStory(story) || !isStep(known)) {
            return RANGE;
        }
        int cells = yarn.cloth.cells();
        for (int cell = 0; cell < cells; cell++) {
            sure[cell] = sureThread(cell, story, known);
        }
        int many = 0;
        for (int cell = 0; cell < cells; cell++) {
            if (sure[cell] != NONE && sureAmong(sure[cell], 0, cell) == 0
                    && sureAmong(sure[cell], cell + 1, cells) > 0) {
                many++;
            }
        }
        return many;
    }

    public int next(int story, int hours) {
        if (!isStory(story) || !isWithin(hours, 1, MOST_LAMP)) {
            return RANGE;
        }
        int best = NONE;
        int bestAlike = 0;
        int bestPairs = 0;
        int blankColumns = 0;
        for (int cell = 0; cell < yarn.cloth.cells(); cell++) {
            if (telling.isBlank(cell, MOST_STEP)) {
                int bit = 1 << yarn.cloth.columnOf(cell);
                // Blank cells of one column are alike, so only the least of them can be the answer.
                if ((blankColumns & bit) != 0) {
                    continue;
                }
                blankColumns |= isGoneInFront(cell) ? 0 : bit;
            }
            if (isGoneInFront(cell)) {
                continue;
            }
            fitted.find(cell, story, MOST_STEP);
            if (fitted.threads < 2) {
                continue;
            }
            int alike = hairs.mostAlike(fitted, cell, story, hours);
            if (best == NONE || alike * bestPairs < bestAlike * fitted.pairs) {
                best = cell;
                bestAlike = alike;
                bestPairs = fitted.pairs;
            }
        }
        return best;
    }

    public int beside(int cell, int story, int known, int what) {
        if (!mayFit(cell, story, known) || !isWithin(what, 0, 2)) {
            return RANGE;
        }
        int places = 0;
        for (int place = 0; place < 9; place++) {
            int near = yarn.cloth.cellBeside(cell, place % 3 - 1, place / 3 - 1);
            if (near != NONE) {
                sure[places] = what == 2 ? NONE : sureThread(near, story, known);
                places++;
            }
        }
        if (what == 2) {
            return places;
        }
        int best = NONE;
        int bestMany = 0;
        for (int i = 0; i < places; i++) {
            int many = sure[i] == NONE ? 0 : sureAmong(sure[i], 0, places);
            if (many > bestMany || many > 0 && many == bestMany && sure[i] < best) {
                best = sure[i];
                bestMany = many;
            }
        }
        return what == 0 ? best : bestMany;
    }

    // ---- light and years

    public int thrown(int cell, int eye, int story, int bound, int what) {
        if (!isCell(cell) || !mayThrow(eye, story, bound) || !isWithin(what, 0, 3)) {
            return RANGE;
        }
        int look = telling.latestLook(cell, 0, MOST_STEP);
        if (!telling.isSeen(look)) {
            return NONE;
        }
        throwLight(cell, look, eye, story, bound);
        return what == 3 ? projector.missed : projector.light[what];
    }

    public int cannot(int eye, int story, int bound, int missed) {
        if (!mayThrow(eye, story, bound) || !isWithin(missed, 0, 9999)) {
            return RANGE;
        }
        int many = 0;
        for (int cell = 0; cell < yarn.cloth.cells(); cell++) {
            int look = telling.latestLook(cell, 0, MOST_STEP);
            if (telling.isSeen(look)) {
                throwLight(cell, look, eye, story, bound);
                many += projector.missed > missed ? 1 : 0;
            }
        }
        return many;
    }

    public int bear(int story, int light, int bound) {
        if (!isStory(story) || !isWithin(light, 1, 99) || !isWithin(bound, 0, 99)) {
            return RANGE;
        }
        int most = MOST_BEAR;
        for (int cell = 0; cell < yarn.cloth.cells(); cell++) {
            if (telling.isBlank(cell, MOST_STEP)) {
                continue;
            }
            fitted.find(cell, story, MOST_STEP);
            if (fitted.pairs == 1) {
                int now = yarn.cloth.hoursOf(story, yarn.cloth.columnOf(cell), fitted.pairPart(0, false), 0);
                most = yearsBorne(fitted.leastThread, now, light, bound, most);
            }
        }
        return most;
    }

    public int world(int told, int seed, int story) {
        if (!mayTell(told) || seed < 0 || !isStory(story)) {
            return RANGE;
        }
        // A WORLD that is not refused is told at its STEP, also if it has no LOOK to tell.
        telling.latestStep = told;
        int before = telling.looks;
        if (yarn.cloth.stuffs > 0) {
            chance.state = seed;
            for (int cell = 0; cell < yarn.cloth.cells(); cell++) {
                int thread = drawThread();
                int year = yarn.cloth.yearFrom(chance.draw(1 + yarn.cloth.menders));
                tellSide(told, cell, 0, thread, story, year);
                tellSide(told, cell, 1, thread, story, year);
            }
        }
        return telling.looks - before;
    }

    public int count(int what) {
        switch (what) {
            case 0:
                return yarn.cloth.clauses;
            case 1:
                return telling.looks;
            case 2:
                return telling.tried;
            case 3:
                return telling.rights;
            case 4:
                return yarn.threads;
            case 5:
                return tape.length;
            default:
                return NONE;
        }
    }

    // ---- what may be asked

    private static boolean isWithin(int n, int least, int most) {
        return n >= least && n <= most;
    }

    private static boolean isSide(int side) {
        return side == 0 || side == 1;
    }

    private static boolean isColour(int c) {
        return isWithin(c, 0, 2);
    }

    private static boolean isStep(int step) {
        return isWithin(step, 0, MOST_STEP);
    }

    private static boolean areShades(int a, int b, int c) {
        return isWithin(a, 0, 99) && isWithin(b, 0, 99) && isWithin(c, 0, 99);
    }

    private boolean isCell(int cell) {
        return isWithin(cell, 0, yarn.cloth.cells() - 1);
    }

    private boolean isStory(int story) {
        return isWithin(story, 0, yarn.cloth.tales - 1);
    }

    private boolean isThread(int thread) {
        return isWithin(thread, 0, yarn.threads - 1);
    }

    private boolean mayTell(int step) {
        return isWithin(step, telling.latestStep, MOST_STEP);
    }

    private boolean mayFit(int cell, int story, int known) {
        return isCell(cell) && isStory(story) && isStep(known);
    }

    private boolean mayThrow(int eye, int story, int bound) {
        return isWithin(eye, 0, yarn.cloth.eyes - 1) && isStory(story) && isWithin(bound, 0, 99);
    }

    // ---- parts of the calls

    private boolean isGoneInFront(int cell) {
        return telling.lookShade(telling.latestLook(cell, 0, MOST_STEP), 0) == GONE;
    }

    private boolean isWithinSlack(int thread, int look, int h) {
        if (!isWithin(h, 0, MOST_BACK)) {
            return false;
        }
        for (int c = 0; c < 3; c++) {
            int off = yarn.shadeOf(thread, h, c) - telling.lookShade(look, c);
            if (Math.abs(off) > yarn.cloth.slack) {
                return false;
            }
        }
        return true;
    }

    /**
     * Colours never grow darker in light, so the hours that fit are one run: it begins where all colours
     * have come up to what is shown less slack (more below 0), and ends where the first is above it by
     * more than slack (more above 0).
     */
    private int hoursPast(int thread, int look, int more) {
        int low = 0;
        int high = MOST_BACK + 1;
        for (int turn = 0; turn < 12 && low < high; turn++) {
            int middle = (low + high) / 2;
            if (isPast(thread, look, more, middle)) {
                high = middle;
            } else {
                low = middle + 1;
            }
        }
        return low;
    }

    private boolean isPast(int thread, int look, int more, int h) {
        int reached = 0;
        for (int c = 0; c < 3; c++) {
            reached += yarn.shadeOf(thread, h, c) >= telling.lookShade(look, c) + more ? 1 : 0;
        }
        return more > 0 ? reached > 0 : reached == 3;
    }

    private boolean mayBe(int story, int known) {
        for (int cell = 0; cell < yarn.cloth.cells(); cell++) {
            if (!telling.isBlank(cell, known)) {
                fitted.find(cell, story, known);
                if (fitted.pairs == 0) {
                    return false;
                }
            }
        }
        return true;
    }

    private static int commonDivisor(int a, int b) {
        int high = a;
        int low = b;
        for (int turn = 0; turn < 64 && low > 0; turn++) {
            int rest = high % low;
            high = low;
            low = rest;
        }
        return Math.max(1, high);
    }

    private int sureThread(int cell, int story, int known) {
        // A stuff makes nine threads at least, and all of them fit a cell of which nothing is known.
        if (telling.isBlank(cell, known)) {
            return NONE;
        }
        fitted.find(cell, story, known);
        return fitted.threads == 1 ? fitted.leastThread : NONE;
    }

    private int sureAmong(int thread, int from, int to) {
        int many = 0;
        for (int i = from; i < to && i < sure.length; i++) {
            many += sure[i] == thread ? 1 : 0;
        }
        return many;
    }

    private void throwLight(int cell, int look, int eye, int story, int bound) {
        fitted.find(cell, story, MOST_STEP);
        fitted.measureSpan();
        for (int c = 0; c < 3; c++) {
            projector.front[c] = telling.lookShade(look, c);
            projector.aim[c] = fitted.greyShade(bound, c);
        }
        projector.search(yarn.cloth, eye);
    }

    /** Colours never grow darker in light, so fewer years never do more harm. */
    private int yearsBorne(int thread, int now, int light, int bound, int most) {
        int years = most;
        for (int c = 0; c < 3; c++) {
            int limit = yarn.shadeOf(thread, now, c) + bound;
            while (years > 0 && yarn.shadeOf(thread, now + years * light, c) > limit) {
                years--;
            }
        }
        return years;
    }

    private int drawThread() {
        int stuffs = yarn.cloth.stuffs;
        int first = chance.draw(stuffs);
        int one = Yarn.rowOf(first, chance.draw(9) + 1);
        boolean isOfTwo = chance.draw(3) == 0 && stuffs > 1 && yarn.cloth.most == 2;
        if (!isOfTwo) {
            return yarn.numberOf(one, Yarn.NO_ROW);
        }
        int second = chance.draw(stuffs - 1);
        second += second >= first ? 1 : 0;
        int two = Yarn.rowOf(second, chance.draw(9) + 1);
        return yarn.numberOf(Math.min(one, two), Math.max(one, two));
    }

    private void tellSide(int told, int cell, int side, int thread, int story, int year) {
        if (telling.looks >= Telling.MOST_LOOKS || !isThread(thread)) {
            return;
        }
        int h = yarn.cloth.hoursOf(story, yarn.cloth.columnOf(cell), year, side);
        telling.addLook(told, cell, side, yarn.shadeOf(thread, h, 0), yarn.shadeOf(thread, h, 1),
                yarn.shadeOf(thread, h, 2));
    }

    /** THE TAPE. */
    private static final class Tape {
        static final int MOST = 900;

        final byte[] bytes = new byte[MOST];
        int length;

        void addFour(int four) {
            for (int shift = 24; shift >= 0 && length < MOST; shift -= 8) {
                bytes[length] = (byte) (four >> shift);
                length++;
            }
        }
    }

    /** Reads a text as a CLOTH, a TOKEN at a time and never ahead, so that the first FAULT come to is the one told. */
    private static final class ClothReader {
        static final int SYNTAX = 1;
        static final int OUT_OF_BOUNDS = 2;
        static final int TWICE = 3;
        static final int ROOM = 4;

        static final int AT_END = 0;
        static final int A_WORD = 1;
        static final int A_NUMBER = 2;
        static final int A_SEMICOLON = 3;
        static final int NO_TOKEN = 4;

        static final int LONGEST_WORD = 8;
        static final int LONGEST_NUMBER = 4;

        static final int CLOTH_SEEN = 1;
        static final int SLACK_SEEN = 2;
        static final int MOST_SEEN = 4;
        static final int BRIGHT_SEEN = 8;

        private static final int[] STUFF_LEAST = {0, 0, 0, 0, 1, 1};
        private static final int[] STUFF_MOST = {99, 99, 99, 1000, 999, 9999};
        private static final int[] HANG_LEAST = {1, 0, 0, 0};
        private static final int[] HANG_MOST = {400, 99, 99, 100};

        int faultKind = 0;
        int faultPlace = NONE;

        private final Tape tape;
        private Cloth into;
        private int at;
        private int seen;
        private int token;
        private int start;
        private int number;
        private long word;

        ClothReader(Tape text, Cloth draft) {
            tape = text;
            into = draft;
        }

        void begin(Cloth draft) {
            into = draft;
            into.clear();
            at = 0;
            seen = 0;
            faultKind = 0;
            faultPlace = NONE;
        }

        boolean hasMore() {
            advance();
            return token != AT_END;
        }

        private boolean refuse(int kind) {
            faultKind = kind;
            faultPlace = start;
            return false;
        }

        private void advance() {
            byte[] bytes = tape.bytes;
            int ends = tape.length;
            while (at < ends && isBlankByte(bytes[at])) {
                at++;
            }
            start = at;
            if (at >= ends) {
                token = AT_END;
            } else if (isLetter(bytes[at])) {
                word = 0;
                for (; at < ends && isLetter(bytes[at]); at++) {
                    word = word * 27 + (bytes[at] - 'a' + 1);
                }
                token = at - start <= LONGEST_WORD ? A_WORD : NO_TOKEN;
            } else if (isDigit(bytes[at])) {
                number = 0;
                for (; at < ends && isDigit(bytes[at]); at++) {
                    number = number * 10 + (bytes[at] - '0');
                }
                token = at - start <= LONGEST_NUMBER ? A_NUMBER : NO_TOKEN;
            } else {
                token = bytes[at] == ';' ? A_SEMICOLON : NO_TOKEN;
                at++;
            }
        }

        private static boolean isBlankByte(int b) {
            return b == 32 || b == 10;
        }

        private static boolean isLetter(int b) {
            return b >= 'a' && b <= 'z';
        }

        private static boolean isDigit(int b) {
            return b >= '0' && b <= '9';
        }

        private boolean says(String text) {
            if (token != A_WORD || at - start != text.length()) {
                return false;
            }
            for (int i = 0; i < text.length(); i++) {
                if (tape.bytes[start + i] != text.charAt(i)) {
                    return false;
                }
            }
            return true;
        }

        /** The clause whose first WORD hasMore() came to; false with a FAULT. */
        boolean readClause() {
            if (says("cloth")) {
                return isFirst(CLOTH_SEEN) && readSize() && closes();
            }
            if (says("slack")) {
                return isFirst(SLACK_SEEN) && readSlack() && closes();
            }
            if (says("mended")) {
                return readMender() && closes();
            }
            if (says("most")) {
                return isFirst(MOST_SEEN) && readMost() && closes();
            }
            if (says("bright")) {
                return isFirst(BRIGHT_SEEN) && readRow(into.bright, 0, 200) && closes();
            }
            if (says("stuff")) {
                return readStuff() && closes();
            }
            if (says("eye")) {
                return readEye() && closes();
            }
            return says("story") ? readTale() : refuse(SYNTAX);
        }

        private boolean closes() {
            advance();
            return token == A_SEMICOLON || refuse(SYNTAX);
        }

        private boolean isFirst(int bit) {
            if ((seen & bit) != 0) {
                return refuse(TWICE);
            }
            seen |= bit;
            return true;
        }

        private boolean readNumber(int least, int most) {
            advance();
            if (token != A_NUMBER) {
                return refuse(SYNTAX);
            }
            return isWithin(number, least, most) || refuse(OUT_OF_BOUNDS);
        }

        private boolean readRow(int[] to, int from, int most) {
            for (int i = from; i < from + 3 && i < to.length; i++) {
                if (!readNumber(0, most)) {
                    return false;
                }
                to[i] = number;
            }
            return true;
        }

        private boolean readName(long[] names, int many) {
            advance();
            if (token != A_WORD) {
                return refuse(SYNTAX);
            }
            for (int i = 0; i < many && i < names.length; i++) {
                if (names[i] == word) {
                    return refuse(TWICE);
                }
            }
            if (many < names.length) {
                names[many] = word;
            }
            return true;
        }

        private boolean readSize() {
            if (!readNumber(1, 8)) {
                return false;
            }
            into.columns = number;
            if (!readNumber(1, 6)) {
                return false;
            }
            into.rows = number;
            return true;
        }

        private boolean readSlack() {
            if (!readNumber(0, 20)) {
                return false;
            }
            into.slack = number;
            return true;
        }

        private boolean readMost() {
            if (!readNumber(1, 2)) {
                return false;
            }
            into.most = number;
            return true;
        }

        private boolean readMender() {
            int m = into.menders;
            if (m >= Cloth.MOST_MENDERS) {
                return refuse(ROOM);
            }
            int least = m == 0 ? 1 : into.menderYears[m - 1] + 1;
            if (!readNumber(least, 999)) {
                return false;
            }
            into.menderYears[m] = number;
            into.menders++;
            return true;
        }

        private boolean readStuff() {
            if (into.stuffs >= Cloth.MOST_STUFFS) {
                return refuse(ROOM);
            }
            if (!readName(into.stuffNames, into.stuffs)) {
                return false;
            }
            for (int i = 0; i < STUFF_LEAST.length; i++) {
                if (!readNumber(STUFF_LEAST[i], STUFF_MOST[i])) {
                    return false;
                }
                into.stuffParts[into.stuffs * Cloth.STUFF_PARTS + i] = number;
            }
            into.stuffs++;
            return true;
        }

        private boolean readEye() {
            if (into.eyes >= Cloth.MOST_EYES) {
                return refuse(ROOM);
            }
            if (!readName(into.eyeNames, into.eyes)) {
                return false;
            }
            for (int sense = 0; sense < 3; sense++) {
                advance();
                if (!says("sees")) {
                    return refuse(SYNTAX);
                }
                if (!readRow(into.eyeTakes, into.eyes * 9 + sense * 3, 9)) {
                    return false;
                }
            }
            into.eyes++;
            return true;
        }

        /** How many HANGS there are shows only at the TOKEN behind the last, so this reads its own semicolon. */
        private boolean readTale() {
            if (into.tales >= Cloth.MOST_TALES) {
                return refuse(ROOM);
            }
            if (!readName(into.taleNames, into.tales)) {
                return false;
            }
            int hangs = 0;
            advance();
            while (says("hang") && hangs < Cloth.MOST_HANGS) {
                if (!readHang(hangs)) {
                    return false;
                }
                hangs++;
                advance();
            }
            if (says("hang")) {
                return refuse(ROOM);
            }
            if (hangs == 0 || token != A_SEMICOLON) {
                return refuse(SYNTAX);
            }
            into.hangs[into.tales] = hangs;
            into.tales++;
            return true;
        }

        private boolean readHang(int hang) {
            int from = Cloth.hangPlace(into.tales, hang);
            for (int i = 0; i < HANG_LEAST.length; i++) {
                if (!readNumber(HANG_LEAST[i], HANG_MOST[i])) {
                    return false;
                }
                into.hangParts[from + i] = number;
            }
            return true;
        }
    }

    /** A CLOTH as it was told. */
    private static final class Cloth {
        static final int MOST_MENDERS = 3;
        static final int MOST_STUFFS = 5;
        static final int MOST_TALES = 4;
        static final int MOST_HANGS = 6;
        static final int MOST_EYES = 2;
        static final int STUFF_PARTS = 6;
        static final int HANG_PARTS = 4;

        int columns;
        int rows;
        int slack;
        int most;
        int clauses;
        final int[] bright = new int[3];
        int menders;
        final int[] menderYears = new int[MOST_MENDERS];
        int stuffs;
        final long[] stuffNames = new long[MOST_STUFFS];
        final int[] stuffParts = new int[MOST_STUFFS * STUFF_PARTS];
        int tales;
        final long[] taleNames = new long[MOST_TALES];
        final int[] hangs = new int[MOST_TALES];
        final int[] hangParts = new int[MOST_TALES * MOST_HANGS * HANG_PARTS];
        int eyes;
        final long[] eyeNames = new long[MOST_EYES];
        final int[] eyeTakes = new int[MOST_EYES * 9];

        Cloth() {
            clear();
        }

        void clear() {
            columns = 4;
            rows = 3;
            slack = 0;
            most = 2;
            clauses = 0;
            Arrays.fill(bright, 100);
            menders = 0;
            stuffs = 0;
            tales = 0;
            eyes = 0;
        }

        static int hangPlace(int tale, int hang) {
            return (tale * MOST_HANGS + hang) * HANG_PARTS;
        }

        int numberTold(int what) {
            switch (what) {
                case 0:
                    return columns;
                case 1:
                    return rows;
                case 2:
                    return slack;
                case 3:
                    return most;
                case 4:
                    return stuffs;
                case 5:
                    return tales;
                case 6:
                    return eyes;
                case 7:
                    return menders;
                default:
                    return NONE;
            }
        }

        int cells() {
            return columns * rows;
        }

        int columnOf(int cell) {
            return columns > 0 ? cell % columns : 0;
        }

        /** The CELL so many columns and rows away, NONE off the cloth or for no way at all. */
        int cellBeside(int cell, int right, int down) {
            int column = columnOf(cell) + right;
            int row = (columns > 0 ? cell / columns : 0) + down;
            boolean isOn = isWithin(column, 0, columns - 1) && isWithin(row, 0, rows - 1);
            return isOn && (right != 0 || down != 0) ? row * columns + column : NONE;
        }

        /** A pair's YEAR by its place: YEAR 0, then those of mended. */
        int yearFrom(int place) {
            return isWithin(place, 1, menders) ? menderYears[place - 1] : 0;
        }

        int yearsOf(int tale) {
            int years = 0;
            for (int hang = 0; hang < hangs[tale]; hang++) {
                years += hangParts[hangPlace(tale, hang)];
            }
            return years;
        }

        int takesOf(int stuff, int c) {
            return stuffParts[stuff * STUFF_PARTS + c];
        }

        int strengthOf(int stuff, int h) {
            int from = stuff * STUFF_PARTS;
            int fast = stuffParts[from + 3];
            return halved(fast, h, stuffParts[from + 4]) + halved(1000 - fast, h, stuffParts[from + 5]);
        }

        private static int halved(int part, int h, int every) {
            int times = every > 0 ? h / every : 0;
            // A shift by 32 or more would begin again at 0.
            return times > 31 ? 0 : part >> times;
        }

        int hoursOf(int tale, int column, int year, int side) {
            int hours = 0;
            int begins = 0;
            for (int hang = 0; hang < hangs[tale]; hang++) {
                int from = hangPlace(tale, hang);
                int ends = begins + hangParts[from];
                int years = Math.max(0, ends - Math.max(begins, year));
                int got = years * lightAt(hangParts[from + 1], hangParts[from + 2], column);
                hours += side == 0 ? got : got * hangParts[from + 3] / 100;
                begins = ends;
            }
            return hours;
        }

        private int lightAt(int left, int right, int column) {
            return columns > 1 ? left + (right - left) * column / (columns - 1) : left;
        }
    }

    /** All THREADS of the CLOTH in use, as they are numbered. */
    private static final class Yarn {
        static final int MOST_THREADS = 855;
        // A row is a STUFF and how much of it; the last one stands for no second STUFF.
        static final int NO_ROW = 45;

        Cloth cloth;
        int threads;
        final int[] one = new int[MOST_THREADS];
        final int[] two = new int[MOST_THREADS];

        Yarn(Cloth first) {
            cloth = first;
        }

        static int rowOf(int stuff, int much) {
            return stuff * 9 + much - 1;
        }

        void spin(Cloth told) {
            cloth = told;
            threads = 0;
            int rows = told.stuffs * 9;
            for (int row = 0; row < rows; row++) {
                add(row, NO_ROW);
            }
            if (told.most < 2) {
                return;
            }
            for (int row = 0; row < rows; row++) {
                for (int other = (row / 9 + 1) * 9; other < rows; other++) {
                    add(row, other);
                }
            }
        }

        private void add(int row, int other) {
            if (threads < MOST_THREADS) {
                one[threads] = row;
                two[threads] = other;
                threads++;
            }
        }

        int numberOf(int row, int other) {
            for (int thread = 0; thread < threads; thread++) {
                if (one[thread] == row && two[thread] == other) {
                    return thread;
                }
            }
            return RANGE;
        }

        int takenBy(int row, int h, int c) {
            if (row >= NO_ROW) {
                return 0;
            }
            int stuff = row / 9;
            return (row % 9 + 1) * cloth.takesOf(stuff, c) * cloth.strengthOf(stuff, h) / 9000;
        }

        int shadeOf(int thread, int h, int c) {
            return Math.max(0, 99 - takenBy(one[thread], h, c) - takenBy(two[thread], h, c));
        }
    }

    /** LOOKS, TRIED, what was put RIGHT, and the STEP. */
    private static final class Telling {
        static final int MOST_LOOKS = 90;
        static final int MOST_TRIED = 20;
        static final int MOST_RIGHTS = 20;
        // Each entry: STEP, CELL (or number TRIED), side (or hours), and three colours.
        static final int PARTS = 6;

        final int[] lookParts = new int[MOST_LOOKS * PARTS];
        final int[] triedParts = new int[MOST_TRIED * PARTS];
        final int[] rightParts = new int[MOST_RIGHTS * PARTS];
        int looks;
        int tried;
        int rights;
        int latestStep;
        boolean isKept;

        void clear() {
            looks = 0;
            tried = 0;
            rights = 0;
            latestStep = 0;
        }

        void copyFrom(Telling other) {
            looks = other.looks;
            tried = other.tried;
            rights = other.rights;
            latestStep = other.latestStep;
            System.arraycopy(other.lookParts, 0, lookParts, 0, looks * PARTS);
            System.arraycopy(other.triedParts, 0, triedParts, 0, tried * PARTS);
            System.arraycopy(other.rightParts, 0, rightParts, 0, rights * PARTS);
        }

        void addLook(int step, int cell, int side, int a, int b, int c) {
            if (looks < MOST_LOOKS) {
                putEntry(lookParts, looks * PARTS, step, cell, side);
                putShades(lookParts, looks * PARTS, a, b, c);
                looks++;
            }
        }

        void addTried(int step, int cell, int hours, int a, int b, int c) {
            if (tried < MOST_TRIED) {
                putEntry(triedParts, tried * PARTS, step, cell, hours);
                putShades(triedParts, tried * PARTS, a, b, c);
                tried++;
            }
        }

        void addRight(int step, int k, int a, int b, int c) {
            if (rights < MOST_RIGHTS) {
                putEntry(rightParts, rights * PARTS, step, k, 0);
                putShades(rightParts, rights * PARTS, a, b, c);
                rights++;
            }
        }

        private void putEntry(int[] to, int from, int step, int of, int by) {
            to[from] = step;
            to[from + 1] = of;
            to[from + 2] = by;
            latestStep = step;
        }

        private static void putShades(int[] to, int from, int a, int b, int c) {
            to[from + 3] = a;
            to[from + 4] = b;
            to[from + 5] = c;
        }

        int rightsOf(int k) {
            int many = 0;
            for (int i = 0; i < rights; i++) {
                many += rightParts[i * PARTS + 1] == k ? 1 : 0;
            }
            return many;
        }

        int latestLook(int cell, int side, int known) {
            for (int i = looks - 1; i >= 0; i--) {
                int from = i * PARTS;
                if (lookParts[from] <= known && lookParts[from + 1] == cell && lookParts[from + 2] == side) {
                    return i;
                }
            }
            return NONE;
        }

        /** A colour of a LOOK; NONE if there is no such LOOK, GONE if it says so. */
        int lookShade(int look, int c) {
            return look >= 0 && look < looks ? lookParts[look * PARTS + 3 + c] : NONE;
        }

        boolean isSeen(int look) {
            return lookShade(look, 0) >= 0;
        }

        boolean isTriedOf(int k, int cell, int known) {
            return triedParts[k * PARTS] <= known && triedParts[k * PARTS + 1] == cell;
        }

        int triedHours(int k) {
            return triedParts[k * PARTS + 2];
        }

        int latestRight(int k, int known) {
            for (int i = rights - 1; i >= 0; i--) {
                if (rightParts[i * PARTS] <= known && rightParts[i * PARTS + 1] == k) {
                    return i;
                }
            }
            return NONE;
        }

        int triedShade(int k, int known, int c) {
            int last = latestRight(k, known);
            return last == NONE ? triedParts[k * PARTS + 3 + c] : rightParts[last * PARTS + 3 + c];
        }

        /** Whether nothing is known of a CELL; a GONE side tells nothing. */
        boolean isBlank(int cell, int known) {
            if (isSeen(latestLook(cell, 0, known)) || isSeen(latestLook(cell, 1, known))) {
                return false;
            }
            for (int k = 0; k < tried; k++) {
                if (isTriedOf(k, cell, known)) {
                    return false;
                }
            }
            return true;
        }
    }

    /** What all STUFFS take away behind one number of hours, so that all THREADS are shaded by sums alone. */
    private static final class Palette {
        private final Yarn yarn;
        private final int[] taken = new int[(Yarn.NO_ROW + 1) * 3];

        Palette(Yarn threads) {
            yarn = threads;
        }

        void mix(int h) {
            Cloth cloth = yarn.cloth;
            for (int stuff = 0; stuff < cloth.stuffs; stuff++) {
                int strength = cloth.strengthOf(stuff, h);
                for (int c = 0; c < 3; c++) {
                    int takes = cloth.takesOf(stuff, c);
                    for (int much = 1; much <= 9; much++) {
                        taken[Yarn.rowOf(stuff, much) * 3 + c] = much * takes * strength / 9000;
                    }
                }
            }
        }

        int shadeOf(int thread, int c) {
            return Math.max(0, 99 - taken[yarn.one[thread] * 3 + c] - taken[yarn.two[thread] * 3 + c]);
        }

        /** Whether a THREAD takes away of each colour what three bounds from a place on allow. */
        boolean keepsWithin(int thread, int[] least, int[] most, int from) {
            int one = yarn.one[thread] * 3;
            int two = yarn.two[thread] * 3;
            for (int c = 0; c < 3; c++) {
                int both = taken[one + c] + taken[two + c];
                if (both < least[from + c] || both > most[from + c]) {
                    return false;
                }
            }
            return true;
        }
    }

    /** FIT of a CELL: for each THREAD the YEARS with which it fits, as bits by their places. */
    private static final class Fit {
        static final int MOST_SIGHTS = 2 + Telling.MOST_TRIED;

        final Yarn yarn;
        final Telling telling;
        final Palette palette;
        final int[] years = new int[Yarn.MOST_THREADS];
        final int[] spanLeast = new int[3];
        final int[] spanMost = new int[3];
        int pairs;
        int firstPairs;
        int threads;
        int leastThread;
        private int sights;
        private final int[] sightSide = new int[MOST_SIGHTS];
        private final int[] sightLamp = new int[MOST_SIGHTS];
        private final int[] takenLeast = new int[MOST_SIGHTS * 3];
        private final int[] takenMost = new int[MOST_SIGHTS * 3];

        Fit(Yarn allThreads, Telling allTold) {
            yarn = allThreads;
            telling = allTold;
            palette = new Palette(allThreads);
        }

        void find(int cell, int story, int known) {
            Cloth cloth = yarn.cloth;
            int column = cloth.columnOf(cell);
            int places = cloth.menders + 1;
            gather(cell, known);
            Arrays.fill(years, 0, yarn.threads, (1 << places) - 1);
            for (int place = 0; place < places; place++) {
                int year = cloth.yearFrom(place);
                for (int i = 0; i < sights; i++) {
                    palette.mix(cloth.hoursOf(story, column, year, sightSide[i]) + sightLamp[i]);
                    narrow(1 << place, i * 3);
                }
            }
            sumUp();
        }

        /** All that is known of a CELL, each as the side, the hours more under a lamp, and what may be taken away. */
        private void gather(int cell, int known) {
            sights = 0;
            for (int side = 0; side < 2; side++) {
                int look = telling.latestLook(cell, side, known);
                if (telling.isSeen(look)) {
                    for (int c = 0; c < 3; c++) {
                        allow(c, telling.lookShade(look, c));
                    }
                    addSight(side, 0);
                }
            }
            for (int k = 0; k < telling.tried; k++) {
                if (telling.isTriedOf(k, cell, known)) {
                    for (int c = 0; c < 3; c++) {
                        allow(c, telling.triedShade(k, known, c));
                    }
                    addSight(0, telling.triedHours(k));
                }
            }
        }

        /** A colour that shows as 0 may have lost any more than that. */
        private void allow(int c, int shade) {
            int slack = yarn.cloth.slack;
            if (sights < MOST_SIGHTS) {
                takenLeast[sights * 3 + c] = 99 - shade - slack;
                takenMost[sights * 3 + c] = shade > slack ? 99 - shade + slack : FAR;
            }
        }

        private void addSight(int side, int lamp) {
            if (sights < MOST_SIGHTS) {
                sightSide[sights] = side;
                sightLamp[sights] = lamp;
                sights++;
            }
        }

        private void narrow(int bit, int from) {
            for (int thread = 0; thread < yarn.threads; thread++) {
                if ((years[thread] & bit) != 0 && !palette.keepsWithin(thread, takenLeast, takenMost, from)) {
                    years[thread] &= ~bit;
                }
            }
        }

        private void sumUp() {
            pairs = 0;
            firstPairs = 0;
            threads = 0;
            leastThread = NONE;
            for (int thread = 0; thread < yarn.threads; thread++) {
                if (years[thread] != 0) {
                    pairs += Integer.bitCount(years[thread]);
                    firstPairs += years[thread] & 1;
                    threads++;
                    leastThread = leastThread == NONE ? thread : leastThread;
                }
            }
        }

        /** Of pair i its THREAD's number, or its YEAR; NONE if there are not so many. */
        int pairPart(int i, boolean isThread) {
            int left = i;
            for (int thread = 0; thread < yarn.threads; thread++) {
                for (int place = 0; place <= yarn.cloth.menders; place++) {
                    if ((years[thread] >> place & 1) != 0) {
                        if (left == 0) {
                            return isThread ? thread : yarn.cloth.yearFrom(place);
                        }
                        left--;
                    }
                }
            }
            return NONE;
        }

        void measureSpan() {
            palette.mix(0);
            Arrays.fill(spanLeast, 99);
            Arrays.fill(spanMost, 0);
            for (int thread = 0; thread < yarn.threads; thread++) {
                if (years[thread] != 0) {
                    for (int c = 0; c < 3; c++) {
                        int shade = palette.shadeOf(thread, c);
                        spanLeast[c] = Math.min(spanLeast[c], shade);
                        spanMost[c] = Math.max(spanMost[c], shade);
                    }
                }
            }
        }

        /** GREY by the span that was measured last. */
        int greyShade(int bound, int c) {
            boolean isTold = pairs > 0;
            for (int i = 0; i < 3; i++) {
                isTold &= spanMost[i] - spanLeast[i] <= bound;
            }
            return isTold ? (spanLeast[c] + spanMost[c]) / 2 : UNKNOWN_SHADE;
        }
    }

    /** What hairs would show under the lamp. */
    private static final class Hairs {
        // Twice as often as 3420 pairs can be halved.
        private static final int MOST_LEVELS = 24;

        private final int[] shown = new int[Yarn.MOST_THREADS * (Cloth.MOST_MENDERS + 1)];
        private int many;

        /** The most pairs of a FIT that show the same colours behind so many hours more. */
        int mostAlike(Fit fit, int cell, int story, int hours) {
            many = 0;
            Cloth cloth = fit.yarn.cloth;
            for (int place = 0; place <= cloth.menders; place++) {
                int front = cloth.hoursOf(story, cloth.columnOf(cell), cloth.yearFrom(place), 0);
                fit.palette.mix(front + hours);
                addYear(fit, place);
            }
            sort();
            return longestRun();
        }

        private void addYear(Fit fit, int place) {
            for (int thread = 0; thread < fit.yarn.threads; thread++) {
                if ((fit.years[thread] >> place & 1) != 0 && many < shown.length) {
                    int front = fit.palette.shadeOf(thread, 0) * 100 + fit.palette.shadeOf(thread, 1);
                    shown[many] = front * 100 + fit.palette.shadeOf(thread, 2);
                    many++;
                }
            }
        }

        private int longestRun() {
            int longest = 0;
            int run = 0;
            for (int i = 0; i < many; i++) {
                run = i > 0 && shown[i] == shown[i - 1] ? run + 1 : 1;
                longest = Math.max(longest, run);
            }
            return longest;
        }

        /** A heap, since it needs no second row and no worst case makes it slow. */
        private void sort() {
            for (int top = many / 2 - 1; top >= 0; top--) {
                sink(top, many);
            }
            for (int last = many - 1; last > 0; last--) {
                int greatest = shown[0];
                shown[0] = shown[last];
                shown[last] = greatest;
                sink(0, last);
            }
        }

        private void sink(int top, int size) {
            int at = top;
            int held = shown[top];
            for (int level = 0; level < MOST_LEVELS && 2 * at + 1 < size; level++) {
                int child = 2 * at + 1;
                if (child + 1 < size && shown[child + 1] > shown[child]) {
                    child++;
                }
                if (shown[child] <= held) {
                    break;
                }
                shown[at] = shown[child];
                at = child;
            }
            shown[at] = held;
        }
    }

    /** THROWN light. */
    private static final class Projector {
        private static final int MOST_STEPS = 21;

        final int[] front = new int[3];
        final int[] aim = new int[3];
        final int[] light = new int[3];
        int missed;
        private final int[] wanted = new int[3];
        private final int[] sensed = new int[3 * MOST_STEPS * 3];
        private int leastSum;

        /** The BEST light for an EYE by what the front shows and what it is to look like. */
        void search(Cloth cloth, int eye) {
            sense(cloth, eye);
            missed = FAR;
            leastSum = FAR;
            int mostA = cloth.bright[0] / 10;
            int mostB = cloth.bright[1] / 10;
            int mostC = cloth.bright[2] / 10;
            for (int a = 0; a <= mostA && a < MOST_STEPS; a++) {
                for (int b = 0; b <= mostB && b < MOST_STEPS; b++) {
                    if (mayDo(a, b, mostC)) {
                        for (int c = 0; c <= mostC && c < MOST_STEPS; c++) {
                            weigh(a, b, c);
                        }
                    }
                }
            }
        }

        private void sense(Cloth cloth, int eye) {
            for (int sense = 0; sense < 3; sense++) {
                wanted[sense] = 0;
                for (int c = 0; c < 3; c++) {
                    int takes = cloth.eyeTakes[eye * 9 + sense * 3 + c];
                    wanted[sense] += takes * aim[c];
                    for (int step = 0; step < MOST_STEPS; step++) {
                        sensed[placeOf(c, step) + sense] = takes * (front[c] * step * 10 / 100);
                    }
                }
            }
        }

        private static int placeOf(int c, int step) {
            return (c * MOST_STEPS + step) * 3;
        }

        /** More of the third light is never seen as less, so its two ends tell whether any of it may do as well. */
        private boolean mayDo(int a, int b, int mostC) {
            int placeA = placeOf(0, a);
            int placeB = placeOf(1, b);
            int placeC = placeOf(2, mostC);
            for (int sense = 0; sense < 3; sense++) {
                int off = sensed[placeA + sense] + sensed[placeB + sense] - wanted[sense];
                if (off > missed || off + sensed[placeC + sense] < -missed) {
                    return false;
                }
            }
            return true;
        }

        /** Lights come with a, then b rising: of alike ones the one that came first is the least. */
        private void weigh(int a, int b, int c) {
            int placeA = placeOf(0, a);
            int placeB = placeOf(1, b);
            int placeC = placeOf(2, c);
            int most = 0;
            for (int sense = 0; sense < 3; sense++) {
                int sees = sensed[placeA + sense] + sensed[placeB + sense] + sensed[placeC + sense];
                most = Math.max(most, Math.abs(sees - wanted[sense]));
            }
            int sum = a + b + c;
            if (most < missed || most == missed && sum < leastSum) {
                missed = most;
                leastSum = sum;
                light[0] = a * 10;
                light[1] = b * 10;
                light[2] = c * 10;
            }
        }
    }

    /** What a seed draws. */
    private static final class Chance {
        long state;

        int draw(int n) {
            state = (1103515245L * state + 12345L) % 2147483648L;
            return n > 0 ? (int) (state / 65536L % n) : 0;
        }
    }
}
