/** Slides of four by four cells, laid over one another in a lantern, as the document DOC.md promises. */
public final class SlidesOverSlides {
    private static final int NOBODY = -1;
    private static final int OTHER = -2;
    private static final int STATE = -3;
    private static final int BELOW = -4;
    private static final int ROOM = -6;
    private static final int NONE = -9;
    /** "Of longs 4000000000000000000 less them", read as "-1000 less the place" is: this minus the refusal. */
    private static final long LONG_REFUSAL = 4000000000000000000L;

    private static final int MOST_SLIDES = 8;
    private static final int MOST_WANTED = 6;
    private static final int MOST_HEAT = 9;
    private static final int MOST_PRICE = 99;
    private static final int MOST_LETTERS = 80;
    private static final int MOST_BYTE = 255;
    private static final int MOST_ROW = 12;
    private static final int MOST_SEEDS = 40;
    private static final int CELL_COUNT = 16;
    private static final int ALL_DARK = 65535;
    private static final int WITHOUT_SIGN = 0x7FFFFFFF;

    private final Lantern now = new Lantern();
    private final Lantern mind = new Lantern();
    private final Lantern kept = new Lantern();
    private boolean isKept;
    private final Letters letters = new Letters();
    private final Search search = new Search();
    private final Tour tour = new Tour();
    private final int[] rowSets = new int[MOST_ROW];
    private int rowSize;
    private final int[] refusals = new int[7];

    public SlidesOverSlides() {
    }

    public int feed(int letter) {
        int wrong = wrongNumber(letter, 0, MOST_BYTE);
        if (wrong == 0 && letters.isFull()) wrong = ROOM;
        return wrong != 0 ? refused(wrong) : letters.taken(letter);
    }

    public int lantern() {
        int answer = letters.fault();
        if (answer == 0) {
            mind.becomes(now);
            answer = letters.toldTo(mind);
            if (answer > 0) now.becomes(mind);
        }
        letters.forget();
        return answer;
    }

    public int slide(int slide, int what) {
        int wrong = first(wrongSlide(slide), wrongWhat(what, 5));
        return wrong != 0 ? refused(wrong) : now.told(slide, what);
    }

    public int wanted(int i) {
        return now.hasWanted(i) ? now.wantedPicture(i) : refused(NOBODY);
    }

    public int heat(int v) {
        int wrong = wrongNumber(v, 1, MOST_HEAT);
        if (wrong != 0) return refused(wrong);
        int before = now.heatNow;
        now.heatNow = v;
        return before;
    }

    public int price(int slide, int v) {
        int wrong = first(wrongSlide(slide), wrongNumber(v, 0, MOST_PRICE));
        return wrong != 0 ? refused(wrong) : now.repriced(slide, v);
    }

    public int lay(int set, int over) {
        int wrong = first(wrongSet(set), wrongSet(over));
        return wrong != 0 ? refused(wrong) : now.laid(set, over);
    }

    public int project(int set) {
        int wrong = wrongSet(set);
        if (wrong == 0 && !now.isProjectable(set)) wrong = STATE;
        return wrong != 0 ? refused(wrong) : now.projected(set);
    }

    public int gaps(int picture, int what) {
        int wrong = wrongAsked(picture, what, 1);
        if (wrong != 0) return refused(wrong);
        int clear = ALL_DARK & ~picture;
        return what == 0 ? Integer.bitCount(clear) : Cells.groups(clear);
    }

    public int nearest(int picture, int what) {
        int wrong = wrongAsked(picture, what, 1);
        if (wrong != 0) return refused(wrong);
        int which = now.nearestWanted(picture);
        if (which < 0) return NONE;
        return what == 0 ? which : Integer.bitCount(now.wantedPicture(which) ^ picture);
    }

    public int fewest(int picture, int what) {
        int wrong = wrongAsked(picture, what, 3);
        if (wrong != 0) return refused(wrong);
        if (!search.findsFewest(now, picture)) return NONE;
        switch (what) {
            case 0: return search.fewestSize;
            case 1: return search.fewestSet;
            case 2: return search.fewestOver;
            default: return search.fewestWays;
        }
    }

    public int cheapest(int picture) {
        int wrong = wrongNumber(picture, 0, ALL_DARK);
        if (wrong != 0) return refused(wrong);
        int least = search.leastPrice(now, picture);
        return least < 0 ? NONE : least;
    }

    public int near(int picture) {
        int wrong = wrongNumber(picture, 0, ALL_DARK);
        return wrong != 0 ? refused(wrong) : search.leastUnlike(now, picture);
    }

    public int can(int slide) {
        if (slide != Search.NO_SLIDE && !now.has(slide)) return refused(NOBODY);
        return search.showable(now, slide);
    }

    public int worth(int slide) {
        int wrong = wrongSlide(slide);
        if (wrong != 0) return refused(wrong);
        int all = Integer.bitCount(search.showable(now, Search.NO_SLIDE));
        return all - Integer.bitCount(search.showable(now, slide));
    }

    public int sure(int set, int picture, int what) {
        int wrong = first(wrongSet(set), wrongAsked(picture, what, 2));
        if (wrong != 0) return refused(wrong);
        int known = now.laid(set, 0);
        if ((known & ~picture) != 0) return NONE;
        switch (what) {
            case 0: return picture & ~known;
            case 1: return ALL_DARK & ~picture;
            default: return 1 << Integer.bitCount(known);
        }
    }

    public int who(int set, int picture, int what) {
        int wrong = first(wrongSet(set), wrongAsked(picture, what, 1));
        if (wrong != 0) return refused(wrong);
        if (now.laid(set, 0) == picture) return 0;
        int suspects = 0;
        int ways = 0;
        for (int i = 0; i < MOST_SLIDES; i++) {
            int found = (set >> i & 1) != 0 ? now.cracksToShow(set, i, picture) : 0;
            if (found > 0) suspects |= 1 << i;
            ways += found;
        }
        return what == 0 ? suspects : ways;
    }

    public long dust(int set, int tenths, int part) {
        int wrong = first(wrongSet(set), wrongWhat(part, 1));
        wrong = first(wrong, wrongNumber(tenths, 0, 9));
        if (wrong != 0) return LONG_REFUSAL - refused(wrong);
        int clear = CELL_COUNT - Integer.bitCount(now.laid(set, 0));
        int above = 10 - tenths;
        int below = 10;
        for (int d = 2; d <= 5; d++) {
            if (above % d != 0 || below % d != 0) continue;
            above /= d;
            below /= d;
        }
        return power(part == 0 ? above : below, clear);
    }

    public int round() {
        int cost = tour.leastCost(now);
        return cost < 0 ? NONE : cost;
    }

    public int row(int set) {
        int wrong = wrongNumber(set, 0, MOST_BYTE);
        if (wrong == 0 && rowSize >= MOST_ROW) wrong = ROOM;
        if (wrong != 0) return refused(wrong);
        rowSets[rowSize] = set;
        rowSize++;
        return rowSize;
    }

    public int judge() {
        mind.becomes(now);
        int place = NONE;
        for (int i = 0; i < rowSize && place == NONE; i++) {
            if (!mind.isProjectable(rowSets[i]) || !mind.isWanted(mind.projected(rowSets[i]))) place = i;
        }
        rowSize = 0;
        return place;
    }

    public int seeds(int n, int z) {
        int wrong = wrongNumber(n, 1, MOST_SEEDS);
        if (wrong == 0 && now.slideCount == 0) wrong = STATE;
        if (wrong != 0) return refused(wrong);
        mind.becomes(now);
        int dark = 0;
        int seed = z;
        for (int i = 0; i < n; i++) {
            seed = nextSeed(seed);
            int set = 1 << drawBelow(seed, mind.slideCount);
            seed = nextSeed(seed);
            set |= 1 << drawBelow(seed, mind.slideCount);
            dark += Integer.bitCount(mind.projected(set));
        }
        return dark;
    }

    public int image() {
        kept.becomes(now);
        isKept = true;
        return now.slideCount;
    }

    public int restore() {
        if (!isKept) return refused(STATE);
        now.becomes(kept);
        return now.slideCount;
    }

    public int count(int what) {
        if (what >= 11 && what <= 16) return refusals[what - 10];
        switch (what) {
            case 0: return now.slideCount;
            case 1: return now.wantedCount;
            case 2: return now.heatNow;
            case 3: return now.allUses();
            case 4: return now.allPrices();
            case 5: return letters.told;
            case 6: return rowSize;
            default: return NONE;
        }
    }

    private int refused(int number) {
        if (number < 0 && number >= ROOM) refusals[-number]++;
        return number;
    }

    private static int first(int wrong, int next) {
        return wrong != 0 ? wrong : next;
    }

    private int wrongSlide(int slide) {
        return now.has(slide) ? 0 : NOBODY;
    }

    private int wrongSet(int set) {
        return now.hasAll(set) ? 0 : NOBODY;
    }

    private static int wrongWhat(int what, int greatest) {
        return what < 0 || what > greatest ? OTHER : 0;
    }

    private static int wrongNumber(int v, int least, int greatest) {
        if (v < least) return BELOW;
        return v > greatest ? ROOM : 0;
    }

    private static int wrongAsked(int picture, int what, int greatestWhat) {
        return first(wrongWhat(what, greatestWhat), wrongNumber(picture, 0, ALL_DARK));
    }

    private static long power(int base, int times) {
        long product = 1;
        for (int i = 0; i < times; i++) product *= base;
        return product;
    }

    private static int nextSeed(int z) {
        return z * 1103515245 + 12345;
    }

    private static int drawBelow(int z, int n) {
        return n > 0 ? (z & WITHOUT_SIGN) / 65536 % n : 0;
    }

    /** Pictures as bits: cell 4 y + x is bit 4 y + x, dark is 1. */
    private static final class Cells {
        private static final int LEFT_COLUMN = 0x1111;
        private static final int RIGHT_COLUMN = 0x8888;

        /** Each row from the right to the left. */
        static int mirrored(int picture) {
            int pairs = (picture & 0x3333) << 2 | (picture & 0xCCCC) >> 2;
            return (pairs & 0x5555) << 1 | (pairs & 0xAAAA) >> 1;
        }

        /** Rows from the lowest to the uppermost. */
        static int flipped(int picture) {
            int halves = (picture & 0x00FF) << 8 | (picture & 0xFF00) >> 8;
            return (halves & 0x0F0F) << 4 | (halves & 0xF0F0) >> 4;
        }

        /** Each row a number of places to the right; what leaves there comes in at the left. */
        static int shifted(int picture, int places) {
            int moved = picture;
            for (int i = 0; i < places; i++) {
                moved = (moved & ~RIGHT_COLUMN) << 1 | (moved & RIGHT_COLUMN) >> 3;
            }
            return moved;
        }

        /** Into how many groups the told cells fall, side by side or above one another. */
        static int groups(int cells) {
            int left = cells;
            int found = 0;
            while (left != 0 && found < CELL_COUNT) {
                left &= ~grown(left & -left, left);
                found++;
            }
            return found;
        }

        private static int grown(int start, int among) {
            int group = start;
            for (int i = 0; i < CELL_COUNT; i++) {
                int beside = (group & ~RIGHT_COLUMN) << 1 | (group & ~LEFT_COLUMN) >> 1;
                group |= (beside | group << 4 | group >> 4) & among;
            }
            return group;
        }
    }

    /** The slides, the wanted pictures and the heat: all that an image keeps. */
    private static final class Lantern {
        private static final int MOST_KIND = 5;
        private static final int MOST_USES = 99;
        private static final int MOST_PROJECTED = 4;

        private final int[] kinds = new int[MOST_SLIDES];
        private final int[] figures = new int[MOST_SLIDES];
        private final int[] painted = new int[MOST_SLIDES];
        private final int[] prices = new int[MOST_SLIDES];
        private final int[] uses = new int[MOST_SLIDES];
        private final int[] wantedPictures = new int[MOST_WANTED];
        private int slideCount;
        private int wantedCount;
        private int heatNow = MOST_HEAT;

        void becomes(Lantern other) {
            for (int i = 0; i < other.slideCount && i < MOST_SLIDES; i++) {
                kinds[i] = other.kinds[i];
                figures[i] = other.figures[i];
                painted[i] = other.painted[i];
                prices[i] = other.prices[i];
                uses[i] = other.uses[i];
            }
            for (int i = 0; i < other.wantedCount && i < MOST_WANTED; i++) {
                wantedPictures[i] = other.wantedPictures[i];
            }
            slideCount = other.slideCount;
            wantedCount = other.wantedCount;
            heatNow = other.heatNow;
        }

        boolean addsSlide(int kind, int figure, int price, int picture) {
            if (kind < 0 || kind > MOST_KIND || slideCount >= MOST_SLIDES) return false;
            kinds[slideCount] = kind;
            figures[slideCount] = figure;
            prices[slideCount] = price;
            painted[slideCount] = picture;
            uses[slideCount] = 0;
            slideCount++;
            return true;
        }

        boolean addsWanted(int picture) {
            if (wantedCount >= MOST_WANTED) return false;
            wantedPictures[wantedCount] = picture;
            wantedCount++;
            return true;
        }

        boolean heats(int v) {
            if (v < 1 || v > MOST_HEAT) return false;
            heatNow = v;
            return true;
        }

        boolean has(int slide) {
            return slide >= 0 && slide < slideCount;
        }

        boolean hasAll(int set) {
            return set >>> slideCount == 0;
        }

        boolean hasWanted(int i) {
            return i >= 0 && i < wantedCount;
        }

        boolean isProjectable(int set) {
            return hasAll(set) && set != 0 && Integer.bitCount(set) <= MOST_PROJECTED;
        }

        boolean isWanted(int picture) {
            for (int i = 0; i < wantedCount; i++) {
                if (wantedPictures[i] == picture) return true;
            }
            return false;
        }

        int wantedPicture(int i) {
            return hasWanted(i) ? wantedPictures[i] : 0;
        }

        int told(int slide, int what) {
            if (!has(slide)) return 0;
            switch (what) {
                case 0: return kinds[slide];
                case 1: return figures[slide];
                case 2: return painted[slide];
                case 3: return onSlide(slide);
                case 4: return prices[slide];
                default: return uses[slide];
            }
        }

        int repriced(int slide, int v) {
            if (!has(slide)) return 0;
            int before = prices[slide];
            prices[slide] = v;
            return before;
        }

        int onSlide(int slide) {
            if (!has(slide)) return 0;
            int picture = painted[slide];
            switch (kinds[slide]) {
                case 1: return Cells.mirrored(picture);
                case 2: return Cells.flipped(Cells.mirrored(picture));
                case 3: return ALL_DARK & ~picture;
                case 4: return cracked(slide);
                case 5: return Cells.shifted(cracked(slide), figures[slide] % 4);
                default: return picture;
            }
        }

        private int cracked(int slide) {
            return painted[slide] & ~(1 << figures[slide]);
        }

        int laid(int set, int over) {
            int shown = 0;
            for (int i = 0; i < slideCount; i++) {
                if ((set >> i & 1) == 0) continue;
                int on = onSlide(i);
                shown |= (over >> i & 1) != 0 ? Cells.mirrored(on) : on;
            }
            return shown;
        }

        int projected(int set) {
            int shown = laid(set, 0);
            for (int i = 0; i < slideCount; i++) {
                if ((set >> i & 1) != 0) wear(i);
            }
            return shown;
        }

        private void wear(int slide) {
            int used = Math.min(uses[slide] + 1, MOST_USES);
            uses[slide] = used;
            if (heatNow > 0 && used % heatNow == 0) painted[slide] &= ~(1 << used % CELL_COUNT);
        }

        /** The wanted picture with the fewest unlike cells, the first of several; -1 if none is wanted. */
        int nearestWanted(int picture) {
            int which = -1;
            int fewest = CELL_COUNT + 1;
            for (int i = 0; i < wantedCount; i++) {
                int unlike = Integer.bitCount(wantedPictures[i] ^ picture);
                if (unlike < fewest) {
                    fewest = unlike;
                    which = i;
                }
            }
            return which;
        }

        /** How many dark cells of a slide, each clear alone, would make the set show the picture. */
        int cracksToShow(int set, int slide, int picture) {
            int others = laid(set & ~(1 << slide), 0);
            int on = onSlide(slide);
            int found = 0;
            for (int cell = 0; cell < CELL_COUNT; cell++) {
                int bit = 1 << cell;
                if ((on & bit) != 0 && (others | on & ~bit) == picture) found++;
            }
            return found;
        }

        int allUses() {
            int sum = 0;
            for (int i = 0; i < slideCount; i++) sum += uses[i];
            return sum;
        }

        int allPrices() {
            int sum = 0;
            for (int i = 0; i < slideCount; i++) sum += prices[i];
            return sum;
        }
    }

    /** The letters that came, and what lantern they tell. */
    private static final class Letters {
        private static final int BAD = -1;
        private static final int START = 0;
        private static final int KIND = 1;
        private static final int FIGURE = 2;
        private static final int PRICE = 3;
        private static final int MORE_PRICE = 4;
        private static final int COMMA = 5;
        private static final int HEAT = 6;
        /** From here on one state for each cell that is still to come, END behind the last. */
        private static final int CELLS = 7;
        private static final int END = CELLS + CELL_COUNT;

        private static final int FAULT_OF_FORM = -1000;
        private static final int FAULT_OF_STATEMENT = -2000;

        private final int[] signs = new int[MOST_LETTERS];
        private int told;

        boolean isFull() {
            return told >= MOST_LETTERS;
        }

        int taken(int sign) {
            if (!isFull()) {
                signs[told] = sign;
                told++;
            }
            return told;
        }

        void forget() {
            told = 0;
        }

        /** The fault of kind 1, or 0 where the letters have the form of a lantern. */
        int fault() {
            int state = START;
            for (int i = 0; i < told; i++) {
                state = stateBehind(state, signs[i]);
                if (state == BAD) return FAULT_OF_FORM - i;
            }
            return told > 0 && state == START ? 0 : FAULT_OF_FORM - told;
        }

        private static int stateBehind(int state, int sign) {
            if (state >= CELLS && state < END) return sign == '.' || sign == '#' ? state + 1 : BAD;
            switch (state) {
                case START: return stateOpened(sign);
                case KIND: return isDigit(sign) ? FIGURE : BAD;
                case FIGURE: return isDigit(sign) ? PRICE : BAD;
                case PRICE: return isDigit(sign) ? MORE_PRICE : BAD;
                case MORE_PRICE:
                    if (isDigit(sign)) return COMMA;
                    return sign == ',' ? CELLS : BAD;
                case COMMA: return sign == ',' ? CELLS : BAD;
                case HEAT: return isDigit(sign) ? END : BAD;
                case END: return sign == ';' ? START : BAD;
                default: return BAD;
            }
        }

        private static int stateOpened(int sign) {
            switch (sign) {
                case 's': return KIND;
                case 'w': return CELLS;
                case 'h': return HEAT;
                default: return BAD;
            }
        }

        private static boolean isDigit(int sign) {
            return sign >= '0' && sign <= '9';
        }

        /** Puts letters without a fault of form into a lantern: how many statements, or the fault of kind 2. */
        int toldTo(Lantern lantern) {
            int statements = 0;
            int start = 0;
            for (int i = 0; i < told; i++) {
                if (signs[i] != ';') continue;
                if (!statementComes(lantern, start, i)) return FAULT_OF_STATEMENT - start;
                statements++;
                start = i + 1;
            }
            return statements;
        }

        private boolean statementComes(Lantern lantern, int start, int end) {
            switch (signAt(start)) {
                case 's':
                    int comma = end - CELL_COUNT - 1;
                    int priced = number(start + 3, comma);
                    return lantern.addsSlide(digit(start + 1), digit(start + 2), priced, pictureBefore(end));
                case 'w': return lantern.addsWanted(pictureBefore(end));
                default: return lantern.heats(digit(start + 1));
            }
        }

        private int signAt(int place) {
            return place >= 0 && place < told ? signs[place] : 0;
        }

        private int digit(int place) {
            return signAt(place) - '0';
        }

        private int number(int from, int to) {
            int value = 0;
            for (int i = from; i < to; i++) value = value * 10 + digit(i);
            return value;
        }

        private int pictureBefore(int end) {
            int picture = 0;
            for (int cell = 0; cell < CELL_COUNT; cell++) {
                if (signAt(end - CELL_COUNT + cell) == '#') picture |= 1 << cell;
            }
            return picture;
        }
    }

    /** Looks through sets of slides, each turned over or not; goes one slide deeper with each level. */
    private static final class Search {
        static final int NO_SLIDE = -1;
        /** Stands for a way of laying a slide that can't help to show the target. */
        private static final int USELESS = -1;
        private static final int FAR_PRICE = 1000;

        private final int[] straight = new int[MOST_SLIDES];
        private final int[] turned = new int[MOST_SLIDES];
        private final int[] slidePrices = new int[MOST_SLIDES];
        /** What the slides from here on can make dark; lets a search leave off early. */
        private final int[] reach = new int[MOST_SLIDES + 1];
        private int depth;
        private int target;
        private int leastFound;
        private int fewestSize;
        private int fewestSet;
        private int fewestOver;
        private int fewestWays;

        boolean findsFewest(Lantern lantern, int picture) {
            load(lantern, NO_SLIDE, picture, picture);
            fewestSize = MOST_SLIDES + 1;
            fewestSet = 0;
            fewestOver = 0;
            fewestWays = 0;
            seekFewest(0, 0, 0, 0);
            return fewestWays > 0;
        }

        /** The least price of a set that shows the picture; -1 if none does. */
        int leastPrice(Lantern lantern, int picture) {
            load(lantern, NO_SLIDE, picture, picture);
            leastFound = FAR_PRICE;
            seekCheapest(0, 0, 0);
            return leastFound == FAR_PRICE ? -1 : leastFound;
        }

        int leastUnlike(Lantern lantern, int picture) {
            load(lantern, NO_SLIDE, picture, ALL_DARK);
            leastFound = CELL_COUNT + 1;
            seekNear(0, 0);
            return leastFound;
        }

        /** The wanted pictures (bits) that can be shown without a slide, or with all of them (NO_SLIDE). */
        int showable(Lantern lantern, int without) {
            int found = 0;
            for (int i = 0; i < lantern.wantedCount; i++) {
                int picture = lantern.wantedPicture(i);
                load(lantern, without, picture, picture);
                if (isShown(0, 0)) found |= 1 << i;
            }
            return found;
        }

        /** A way of laying a slide that makes a cell dark outside of allowed is left out of the search. */
        private void load(Lantern lantern, int without, int picture, int allowed) {
            target = picture;
            depth = Math.min(lantern.slideCount, MOST_SLIDES);
            reach[depth] = 0;
            for (int i = depth - 1; i >= 0; i--) {
                int on = lantern.onSlide(i);
                straight[i] = i == without ? USELESS : usable(on, allowed);
                turned[i] = i == without ? USELESS : usable(Cells.mirrored(on), allowed);
                slidePrices[i] = lantern.prices[i];
                reach[i] = reach[i + 1] | dark(straight[i]) | dark(turned[i]);
            }
        }

        private static int usable(int picture, int allowed) {
            return (picture & ~allowed) == 0 ? picture : USELESS;
        }

        private static int dark(int laying) {
            return laying == USELESS ? 0 : laying;
        }

        private boolean isOutOfReach(int i, int shown) {
            return (target & ~(shown | reach[i])) != 0;
        }

        private void seekFewest(int i, int shown, int set, int over) {
            if (i < 0 || i > depth || isOutOfReach(i, shown)) return;
            if (Integer.bitCount(set) > fewestSize) return;
            if (i == depth) {
                noteFewest(set, over);
                return;
            }
            int bit = 1 << i;
            seekFewest(i + 1, shown, set, over);
            if (straight[i] != USELESS) seekFewest(i + 1, shown | straight[i], set | bit, over);
            if (turned[i] != USELESS) seekFewest(i + 1, shown | turned[i], set | bit, over | bit);
        }

        private void noteFewest(int set, int over) {
            int size = Integer.bitCount(set);
            boolean isFewer = size < fewestSize;
            fewestWays = isFewer ? 1 : fewestWays + 1;
            fewestSize = size;
            if (isFewer || set < fewestSet || set == fewestSet && over < fewestOver) {
                fewestSet = set;
                fewestOver = over;
            }
        }

        private void seekCheapest(int i, int shown, int cost) {
            if (i < 0 || i > depth || cost >= leastFound || isOutOfReach(i, shown)) return;
            if (i == depth) {
                leastFound = cost;
                return;
            }
            seekCheapest(i + 1, shown, cost);
            if (straight[i] != USELESS) seekCheapest(i + 1, shown | straight[i], cost + slidePrices[i]);
            if (turned[i] != USELESS) seekCheapest(i + 1, shown | turned[i], cost + slidePrices[i]);
        }

        private void seekNear(int i, int shown) {
            if (i < 0 || i > depth) return;
            int atLeast = Integer.bitCount(shown & ~target | target & ~(shown | reach[i]));
            if (atLeast >= leastFound) return;
            if (i == depth) {
                leastFound = atLeast;
                return;
            }
            seekNear(i + 1, shown);
            seekNear(i + 1, shown | dark(straight[i]));
            seekNear(i + 1, shown | dark(turned[i]));
        }

        /** A usable slide never harms here, so it's left out only where neither side is usable. */
        private boolean isShown(int i, int shown) {
            if (i < 0 || i > depth || isOutOfReach(i, shown)) return false;
            if (i == depth) return true;
            if (straight[i] == USELESS && turned[i] == USELESS) return isShown(i + 1, shown);
            if (straight[i] != USELESS && isShown(i + 1, shown | straight[i])) return true;
            return turned[i] != USELESS && isShown(i + 1, shown | turned[i]);
        }
    }

    /**
     * The cheapest way to show wanted pictures one behind the other. A change costs the slides that are put in or
     * taken out, so each order is a walk from the empty set, a slide a step, that passes a set for each picture.
     */
    private static final class Tour {
        private static final int MOST_STOPS = 4;
        private static final int SETS = 1 << MOST_SLIDES;
        private static final int FAR = 1000;

        private final int[] stops = new int[MOST_STOPS];
        private final int[] shown = new int[SETS];
        /** At (pictures shown so far, bits) times SETS and the set: the fewest steps until there. */
        private final int[] steps = new int[SETS << MOST_STOPS];

        /** -1 if no wanted picture can be shown, or more than four. */
        int leastCost(Lantern lantern) {
            int slides = Math.min(lantern.slideCount, MOST_SLIDES);
            layAll(lantern, slides);
            int stopCount = findStops(lantern, 1 << slides);
            if (stopCount < 1 || stopCount > MOST_STOPS) return -1;
            int all = (1 << stopCount) - 1;
            for (int set = 0; set < 1 << slides; set++) steps[set] = Integer.bitCount(set);
            for (int done = 1; done <= all; done++) {
                arrive(done, stopCount, 1 << slides);
                if (done < all) walk(done, slides);
            }
            return leastSteps(all, 1 << slides);
        }

        private void layAll(Lantern lantern, int slides) {
            shown[0] = 0;
            for (int i = 0; i < slides; i++) {
                int on = lantern.onSlide(i);
                int bit = 1 << i;
                for (int set = 0; set < bit; set++) shown[bit + set] = shown[set] | on;
            }
        }

        private int findStops(Lantern lantern, int sets) {
            int found = 0;
            for (int i = 0; i < lantern.wantedCount; i++) {
                int picture = lantern.wantedPicture(i);
                if (!isShownByOne(picture, sets)) continue;
                if (found < MOST_STOPS) stops[found] = picture;
                found++;
            }
            return found;
        }

        private boolean isShownByOne(int picture, int sets) {
            for (int set = 0; set < sets; set++) {
                if (shown[set] == picture) return true;
            }
            return false;
        }

        private void arrive(int done, int stopCount, int sets) {
            int at = done * SETS;
            for (int set = 0; set < sets; set++) {
                int least = FAR;
                for (int stop = 0; stop < stopCount; stop++) {
                    int bit = 1 << stop;
                    if ((done & bit) == 0 || shown[set] != stops[stop]) continue;
                    least = Math.min(least, steps[(done ^ bit) * SETS + set]);
                }
                steps[at + set] = least;
            }
        }

        private void walk(int done, int slides) {
            int at = done * SETS;
            for (int i = 0; i < slides; i++) {
                int bit = 1 << i;
                for (int set = 0; set < 1 << slides; set++) {
                    int beside = at + (set ^ bit);
                    steps[at + set] = Math.min(steps[at + set], steps[beside] + 1);
                }
            }
        }

        private int leastSteps(int done, int sets) {
            int least = FAR;
            for (int set = 0; set < sets; set++) least = Math.min(least, steps[done * SETS + set]);
            return least;
        }
    }
}
