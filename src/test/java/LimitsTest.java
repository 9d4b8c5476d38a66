/** The least and the greatest that is taken, what is empty, what is full: each by the sentence that names it. */
public final class LimitsTest extends Checks {
    private static final int ALL = 65535;

    /** Eight slides of one cell each: slide i makes cell i dark (0 .. 3 in row 0, 4 .. 7 in row 1). */
    private static SlidesOverSlides eight() {
        SlidesOverSlides x = new SlidesOverSlides();
        due("lantern", tell(x, plain(1) + plain(2) + plain(4)), 3);
        due("lantern", tell(x, plain(8) + plain(16) + plain(32)), 3);
        due("lantern", tell(x, plain(64) + plain(128)), 2);
        return x;
    }

    // ---- too small, too large: the last that is taken on each side ----

    private static void letters() {
        about("promise 2: letters 0 .. 255");
        SlidesOverSlides x = new SlidesOverSlides();
        due("feed(0)", x.feed(0), 1);
        due("feed(255)", x.feed(255), 2);
        due("feed(-1)", x.feed(-1), -4);
        due("feed(256)", x.feed(256), -6);
        due("feed(LEAST)", x.feed(LEAST), -4);
        due("feed(GREATEST)", x.feed(GREATEST), -6);
        due("letters", x.count(5), 2);
        refusalsAre(x, 0, 0, 0, 2, 0, 2);
    }

    private static void heats() {
        about("promise 6: HEAT 1 .. 9; 9 at first");
        SlidesOverSlides x = new SlidesOverSlides();
        for (int v = 9; v >= 1; v--) due("heat(" + v + ")", x.heat(v), Math.min(9, v + 1));
        due("heat(0)", x.heat(0), -4);
        due("heat(10)", x.heat(10), -6);
        due("heat(LEAST)", x.heat(LEAST), -4);
        due("heat(GREATEST)", x.heat(GREATEST), -6);
        due("heat(9)", x.heat(9), 1);
        due("heat", x.count(2), 9);
    }

    private static void prices() {
        about("promise 7: PRICE 0 .. 99");
        SlidesOverSlides x = eight();
        for (int i : new int[] { 0, 7 }) {
            due("price 0", x.price(i, 0), 1);
            due("price 99", x.price(i, 99), 0);
            due("price -1", x.price(i, -1), -4);
            due("price 100", x.price(i, 100), -6);
            due("price LEAST", x.price(i, LEAST), -4);
            due("price GREATEST", x.price(i, GREATEST), -6);
            due("price", x.slide(i, 4), 99);
        }
        due("slide 8", x.price(8, 0), -1);
        due("slide -1", x.price(-1, 0), -1);
        due("all prices", x.count(4), 6 + 2 * 99);
    }

    private static void rowSets() {
        about("promise 21: sets 0 .. 255");
        SlidesOverSlides x = new SlidesOverSlides();
        due("row(0)", x.row(0), 1);
        due("row(255)", x.row(255), 2);
        due("row(-1)", x.row(-1), -4);
        due("row(256)", x.row(256), -6);
        due("row(LEAST)", x.row(LEAST), -4);
        due("row(GREATEST)", x.row(GREATEST), -6);
        due("in the row", x.count(6), 2);
    }

    private static void seedTimes() {
        about("promise 23: n 1 .. 40, any z");
        SlidesOverSlides x = lanternOf(plain(0x0003));
        for (int z : new int[] { 0, 1, -1, LEAST, GREATEST }) {
            due("seeds(1, " + z + ")", x.seeds(1, z), 2);
            due("seeds(40, " + z + ")", x.seeds(40, z), 80);
            due("seeds(0, " + z + ")", x.seeds(0, z), -4);
            due("seeds(41, " + z + ")", x.seeds(41, z), -6);
            due("seeds(LEAST, " + z + ")", x.seeds(LEAST, z), -4);
            due("seeds(GREATEST, " + z + ")", x.seeds(GREATEST, z), -6);
        }
    }

    /** PICTURES 0 .. 65535, on a slide that shows 65535 and a wanted picture of both ends. */
    private static void pictures() {
        about("promises 10 .. 14, 17, 18: PICTURES 0 .. 65535");
        SlidesOverSlides x = lanternOf(priced(42, ALL), want(0), want(ALL));
        int[] ends = { 0, ALL };
        int[] clear = { 16, 0 };
        for (int i = 0; i < 2; i++) {
            due("gaps", x.gaps(ends[i], 0), clear[i]);
            due("groups", x.gaps(ends[i], 1), 1 - i);
            due("nearest", x.nearest(ends[i], 0), i);
            due("unlike", x.nearest(ends[i], 1), 0);
            due("fewest", x.fewest(ends[i], 0), i);
            due("set", x.fewest(ends[i], 1), i);
            due("turned over", x.fewest(ends[i], 2), 0);
            due("ways", x.fewest(ends[i], 3), 1 + i);
            due("cheapest", x.cheapest(ends[i]), 42 * i);
            due("near", x.near(ends[i]), 0);
        }
        due("sure dark", x.sure(0, 0, 0), 0);
        due("sure clear", x.sure(0, 0, 1), ALL);
        due("sure ways", x.sure(0, 0, 2), 1);
        due("sure can't be", x.sure(1, 0, 2), -9);
        due("sure dark", x.sure(1, ALL, 0), 0);
        due("sure clear", x.sure(1, ALL, 1), 0);
        due("sure ways", x.sure(1, ALL, 2), 65536);
        due("who", x.who(1, 0, 0), 0);
        due("who", x.who(1, ALL, 0), 0);
        due("who", x.who(1, ALL - 1, 0), 1);
        due("who", x.who(1, ALL >> 1, 1), 1);
        refusalsAre(x, 0, 0, 0, 0, 0, 0);
    }

    private static void dustTenths() {
        about("promise 19: D tenths 0 .. 9");
        SlidesOverSlides x = lanternOf(plain(ALL - 1));
        due("0 above", x.dust(1, 0, 0), 1);
        due("0 below", x.dust(1, 0, 1), 1);
        due("9 above", x.dust(1, 9, 0), 1);
        due("9 below", x.dust(1, 9, 1), 10);
        due("-1", x.dust(1, -1, 0), 4000000000000000004L);
        due("10", x.dust(1, 10, 0), 4000000000000000006L);
        due("LEAST", x.dust(1, LEAST, 0), 4000000000000000004L);
        due("GREATEST", x.dust(1, GREATEST, 0), 4000000000000000006L);
    }

    /** The largest numbers above and below the line: 16 clear cells. */
    private static void dustOfAllCells() {
        about("promise 19: a fraction in least terms, all cells CLEAR");
        SlidesOverSlides x = new SlidesOverSlides();
        long ten = 10000000000000000L;
        long five = 152587890625L;
        long[] above = { 1, 1853020188851841L, 4294967296L, 33232930569601L, 43046721L, 1, 65536, 43046721L, 1, 1 };
        long[] below = { 1, ten, five, ten, five, 65536, five, ten, five, ten };
        for (int d = 0; d <= 9; d++) {
            due("above, " + d + " tenths", x.dust(0, d, 0), above[d]);
            due("below, " + d + " tenths", x.dust(0, d, 1), below[d]);
        }
    }

    private static void slidesThatAreNotThere() {
        about("-1 NOBODY: no such SLIDE (0 .. 7 as they come)");
        SlidesOverSlides x = new SlidesOverSlides();
        for (int n = 0; n <= 8; n++) {
            due("slides", x.count(0), n);
            due("slide", x.slide(n, 2), -1);
            due("price", x.price(n, 5), -1);
            due("can", x.can(n), -1);
            due("worth", x.worth(n), -1);
            if (n > 0) {
                due("slide", x.slide(n - 1, 2), n);
                due("price", x.price(n - 1, 5), 1);
                due("can", x.can(n - 1), 0);
                due("worth", x.worth(n - 1), 0);
            }
            if (n < 8) due("lantern", tell(x, plain(n + 1)), 1);
        }
    }

    private static void setsThatAreNotThere() {
        about("-1 NOBODY: bits of SLIDES that are not there");
        SlidesOverSlides x = new SlidesOverSlides();
        for (int n = 0; n <= 8; n++) {
            int not = 1 << n;
            due("lay", x.lay(not, 0), -1);
            due("lay over", x.lay(0, not), -1);
            due("project", x.project(not), -1);
            due("sure", x.sure(not, 0, 0), -1);
            due("who", x.who(not, 0, 0), -1);
            due("dust", x.dust(not, 0, 0), 4000000000000000001L);
            due("row", x.row(not & 255), 1);
            due("judge", x.judge(), 0);
            int all = not - 1;
            due("lay all", x.lay(all, all), all == 0 ? 0 : 15);
            due("sure all", x.sure(all, 15, 0), all == 0 ? 15 : 0);
            due("who all", x.who(all, 0, 1), 0);
            due("dust all", x.dust(all, 0, 0), 1);
            if (n < 8) due("lantern", tell(x, plain(15)), 1);
        }
    }

    private static void wantedThatAreNotThere() {
        about("-1 NOBODY: no such WANTED PICTURE (0 .. 5 as they come)");
        SlidesOverSlides x = new SlidesOverSlides();
        for (int n = 0; n <= 6; n++) {
            due("wanted", x.count(1), n);
            for (int i = 0; i < n; i++) due("wanted " + i, x.wanted(i), 100 + i);
            due("wanted " + n, x.wanted(n), -1);
            due("wanted -1", x.wanted(-1), -1);
            if (n < 6) due("lantern", tell(x, want(100 + n)), 1);
        }
    }

    private static void canOfAll() {
        about("promise 15: CAN (slide -1); -1 (below -1, too)");
        SlidesOverSlides x = lanternOf(plain(3), want(3), want(12), want(15), want(0), want(16));
        due("can(-1)", x.can(-1), 1 | 2 | 8);
        due("can(0)", x.can(0), 8);
        due("can(-2)", x.can(-2), -1);
        due("can(1)", x.can(1), -1);
        due("can(LEAST)", x.can(LEAST), -1);
        due("can(GREATEST)", x.can(GREATEST), -1);
        due("worth(0)", x.worth(0), 2);
    }

    // ---- empty ----

    private static void noSlides() {
        about("no SLIDES");
        SlidesOverSlides x = new SlidesOverSlides();
        for (int what = 0; what <= 6; what++) due("count", x.count(what), what == 2 ? 9 : 0);
        due("lay", x.lay(0, 0), 0);
        due("project", x.project(0), -3);
        due("fewest 1", x.fewest(1, 0), -9);
        due("cheapest 1", x.cheapest(1), -9);
        due("cheapest 0", x.cheapest(0), 0);
        for (int p = 0; p <= ALL; p = 2 * p + 1) due("near", x.near(p), Integer.bitCount(p));
        due("can", x.can(-1), 0);
        due("sure dark", x.sure(0, 0x1234, 0), 0x1234);
        due("sure clear", x.sure(0, 0x1234, 1), 0xEDCB);
        due("sure ways", x.sure(0, 0x1234, 2), 1);
        due("who", x.who(0, 0x1234, 0), 0);
        due("who ways", x.who(0, 0, 1), 0);
        due("dust", x.dust(0, 5, 1), 65536);
        due("round", x.round(), -9);
        due("seeds", x.seeds(1, 1), -3);
        due("image", x.image(), 0);
        due("restore", x.restore(), 0);
        due("lantern", tell(x, want(0) + want(1)), 2);
        due("the blank one can be shown", x.can(-1), 1);
        due("and costs nothing", x.round(), 0);
    }

    private static void noWanted() {
        about("no WANTED: -9 none is WANTED; -9 there are none");
        SlidesOverSlides x = lanternOf(plain(3), plain(4));
        due("nearest", x.nearest(0, 0), -9);
        due("nearest", x.nearest(ALL, 1), -9);
        due("wanted", x.wanted(0), -1);
        due("can", x.can(-1), 0);
        due("without", x.can(0), 0);
        due("worth", x.worth(1), 0);
        due("round", x.round(), -9);
        due("row", x.row(1), 1);
        due("judge", x.judge(), 0);
        due("lantern", tell(x, want(3)), 1);
        due("nearest", x.nearest(ALL, 1), 14);
        due("round", x.round(), 1);
    }

    private static void noneThatCanBeShown() {
        about("promise 20: -9 there are none (that can be shown with none turned over)");
        SlidesOverSlides x = lanternOf(plain(3), want(12), want(1), want(ALL));
        due("round", x.round(), -9);
        due("can, turned over", x.can(-1), 1);
    }

    private static void noLetters() {
        about("promise 3: at least one STATEMENT; no letters");
        SlidesOverSlides x = new SlidesOverSlides();
        due("lantern", x.lantern(), -1000);
        due("lantern again", x.lantern(), -1000);
        due("a lantern", tell(x, "h4;"), 1);
        due("lantern, whose letters are no more", x.lantern(), -1000);
        due("heat", x.count(2), 4);
        refusalsAre(x, 0, 0, 0, 0, 0, 0);
    }

    private static void emptyRow() {
        about("promise 22: an empty ROW");
        SlidesOverSlides x = new SlidesOverSlides();
        due("judge", x.judge(), -9);
        due("lantern", tell(x, plain(3) + want(3)), 2);
        due("judge", x.judge(), -9);
        due("row", x.row(0), 1);
        due("judge", x.judge(), 0);
        due("judge, whose row has none", x.judge(), -9);
        due("row", x.row(1), 1);
        due("judge", x.judge(), -9);
        due("in the row", x.count(6), 0);
        refusalsAre(x, 0, 0, 0, 0, 0, 0);
    }

    private static void noImage() {
        about("promise 25: -3 there is none");
        SlidesOverSlides x = lanternOf(plain(3), want(3));
        due("restore", x.restore(), -3);
        due("slides stay", x.count(0), 1);
        due("image", x.image(), 1);
        due("restore", x.restore(), 1);
        refusalsAre(x, 0, 0, 1, 0, 0, 0);
    }

    private static void setWithoutSlides() {
        about("a set without SLIDES");
        SlidesOverSlides x = lanternOf(plain(ALL), want(0));
        due("lay", x.lay(0, 0), 0);
        due("lay, bits that are not in the set", x.lay(0, 1), 0);
        due("project", x.project(0), -3);
        due("sure", x.sure(0, 5, 0), 5);
        due("sure ways", x.sure(0, 5, 2), 1);
        due("who", x.who(0, 5, 0), 0);
        due("dust", x.dust(0, 1, 1), 10000000000000000L);
        due("round, by the empty set", x.round(), 0);
        due("row", x.row(0), 1);
        due("judge: not of 1 .. 4 SLIDES", x.judge(), 0);
    }

    private static void pictureWithoutDark() {
        about("FEWEST: a PICTURE without DARK CELLS: 0");
        for (SlidesOverSlides x : new SlidesOverSlides[] { new SlidesOverSlides(), lanternOf(plain(0), plain(1)) }) {
            due("how many", x.fewest(0, 0), 0);
            due("the set", x.fewest(0, 1), 0);
            due("turned over", x.fewest(0, 2), 0);
            due("ways", x.fewest(0, 3), 1);
            due("cheapest", x.cheapest(0), 0);
            due("near", x.near(0), 0);
        }
    }

    private static void fewestOfNone() {
        about("promise 12: -9 each");
        SlidesOverSlides x = lanternOf(plain(3));
        for (int what = 0; what <= 3; what++) due("fewest(1, " + what + ")", x.fewest(1, what), -9);
        about("promise 17: -9 each");
        for (int what = 0; what <= 2; what++) due("sure(1, 1, " + what + ")", x.sure(1, 1, what), -9);
    }

    private static void noGaps() {
        about("promise 10: no CLEAR CELLS, no groups");
        SlidesOverSlides x = new SlidesOverSlides();
        due("gaps", x.gaps(ALL, 0), 0);
        due("groups", x.gaps(ALL, 1), 0);
        for (int cell = 0; cell < 16; cell++) {
            due("gaps", x.gaps(ALL - (1 << cell), 0), 1);
            due("groups", x.gaps(ALL - (1 << cell), 1), 1);
        }
        about("promise 10: the end of a row is not beside the start of the next");
        for (int y = 0; y < 3; y++) due("groups", x.gaps(ALL - (0x18 << 4 * y), 1), 2);
        due("the last row is not above the first", x.gaps(ALL - 0x1001, 1), 2);
        due("the left is not beside the right", x.gaps(ALL - 0x0009, 1), 2);
        about("promise 10: a group that turns corners");
        due("down and to the left", x.gaps(ALL - 0x0032, 1), 1);
        due("down, to the right and up", x.gaps(ALL - 0x0755, 1), 1);
        due("from the right end round to the left and up", x.gaps(ALL - 0xF999, 1), 1);
        due("a snake through all rows", x.gaps(ALL - 0x1F8F, 1), 1);
        due("the same, cut", x.gaps(ALL - 0x1F0F, 1), 2);
    }

    private static void allUnlike() {
        about("NEAREST: all 16 CELLS unlike");
        SlidesOverSlides x = lanternOf(want(0xA5A5));
        due("which", x.nearest(0x5A5A, 0), 0);
        due("how many", x.nearest(0x5A5A, 1), 16);
        about("NEAREST: of several the least");
        due("lantern", tell(x, want(0x0003) + want(0x000C) + want(0xA5A5)), 3);
        due("which, two alike", x.nearest(0xA5A5, 0), 0);
        due("which, two as near", x.nearest(0x000F, 0), 1);
        due("how many", x.nearest(0x000F, 1), 2);
    }

    // ---- full ----

    private static void eightyLetters() {
        about("80 letters at most");
        SlidesOverSlides x = new SlidesOverSlides();
        String text = plain(3) + want(3) + plain(12) + want(12);
        feedAll(x, text);
        due("letters", x.count(5), 80);
        due("feed", x.feed(';'), -6);
        due("letters", x.count(5), 80);
        due("lantern of 80 letters", x.lantern(), 4);
        due("slides", x.count(0), 2);
        due("wanted", x.count(1), 2);
        due("there is room again", x.feed(';'), 1);
        due("lantern", x.lantern(), -1000);
        refusalsAre(x, 0, 0, 0, 0, 0, 1);
    }

    private static void eightSlides() {
        about("SLIDES 0 .. 7");
        SlidesOverSlides x = eight();
        due("slides", x.count(0), 8);
        due("no room", tell(x, plain(1)), -2000);
        due("slides", x.count(0), 8);
        due("lay", x.lay(255, 0), 255);
        due("lay, turned over", x.lay(0xF0, 255), 0xF0);
        due("lay, some turned over", x.lay(0x81, 0x80), 0x11);
        due("256", x.lay(256, 0), -1);
        due("the last", x.project(128), 128);
        due("fewest", x.fewest(255, 0), 8);
        due("set", x.fewest(255, 1), 255);
        due("turned over", x.fewest(255, 2), 0);
        due("cheapest", x.cheapest(255), 8);
        due("near", x.near(ALL), 8);
        due("who", x.who(255, 254, 0), 1);
        due("who", x.who(255, 127, 0), 128);
        due("sure ways", x.sure(255, 255, 2), 256);
        due("dust", x.dust(255, 5, 1), 256);
        due("image", x.image(), 8);
        due("restore", x.restore(), 8);
        refusalsAre(x, 1, 0, 0, 0, 0, 0);
    }

    /** Two slides for each row, one of them turned over: 2 ways for each of the 4 rows. */
    private static void eightTurned() {
        about("FEWEST, CHEAPEST with all 8 SLIDES");
        String[] told = new String[8];
        for (int i = 0; i < 8; i++) told[i] = priced(99, 1 << 4 * (i / 2));
        SlidesOverSlides x = lanternOf(told);
        due("fewest", x.fewest(0x9999, 0), 8);
        due("set", x.fewest(0x9999, 1), 255);
        due("turned over", x.fewest(0x9999, 2), 0x55);
        due("ways", x.fewest(0x9999, 3), 16);
        due("cheapest", x.cheapest(0x9999), 792);
        due("all prices", x.count(4), 792);
        due("none", x.cheapest(0xF999), -9);
        due("near", x.near(0xF999), 2);
    }

    /** Rows that are dark from end to end are the same turned over: each of the eight counts two ways. */
    private static void allWays() {
        about("FEWEST: in how many ways (sets and what is turned over)");
        String[] told = new String[8];
        for (int i = 0; i < 8; i++) told[i] = plain(0x0F0F);
        SlidesOverSlides x = lanternOf(told);
        due("fewest", x.fewest(0x0F0F, 0), 1);
        due("set", x.fewest(0x0F0F, 1), 1);
        due("turned over", x.fewest(0x0F0F, 2), 0);
        due("ways", x.fewest(0x0F0F, 3), 16);
    }

    private static void sixWanted() {
        about("WANTED PICTURES 0 .. 5");
        SlidesOverSlides x = lanternOf(plain(1), want(0), want(1), want(8), want(2), want(4), want(ALL));
        due("wanted", x.count(1), 6);
        due("no room", tell(x, want(9)), -2000);
        due("wanted", x.count(1), 6);
        due("wanted 5", x.wanted(5), ALL);
        due("nearest", x.nearest(ALL - 1, 0), 5);
        due("can", x.can(-1), 7);
        due("without", x.can(0), 1);
        due("worth", x.worth(0), 2);
    }

    private static void twelveSets() {
        about("A ROW of sets (12 at most)");
        SlidesOverSlides x = lanternOf(plain(3), want(3));
        for (int i = 1; i <= 12; i++) due("row", x.row(1), i);
        due("13th", x.row(1), -6);
        due("in the row", x.count(6), 12);
        due("judge", x.judge(), -9);
        due("in the row", x.count(6), 0);
        for (int i = 1; i <= 12; i++) due("row", x.row(i < 12 ? 1 : 0), i);
        due("13th", x.row(1), -6);
        due("judge: the last place", x.judge(), 11);
        due("there is room again", x.row(1), 1);
        refusalsAre(x, 0, 0, 0, 0, 0, 2);
    }

    /** All sets of eight slides; an object for each quarter of them, as it has no more than 512 calls. */
    private static void oneToFourProjected() {
        about("To PROJECT a set of SLIDES (4 at most, 1 at least)");
        for (int from = 0; from < 256; from += 64) {
            SlidesOverSlides x = eight();
            due("image", x.image(), 8);
            for (int set = from; set < from + 64; set++) {
                int size = Integer.bitCount(set);
                boolean isTaken = size >= 1 && size <= 4;
                due("project(" + set + ")", x.project(set), isTaken ? set : -3);
                due("all uses", x.count(3), isTaken ? size : 0);
                due("restore", x.restore(), 8);
            }
        }
    }

    private static void judgedOneToFour() {
        about("JUDGED: the first that is not of 1 .. 4 SLIDES that there are");
        SlidesOverSlides x = lanternOf(plain(3), plain(3), plain(3), plain(3), plain(3), want(3), want(0));
        int[] sets = { 0, 1, 3, 7, 15, 30, 31, 32, 33, 128, 255 };
        boolean[] good = { false, true, true, true, true, true, false, false, false, false, false };
        for (int i = 0; i < sets.length; i++) {
            due("row", x.row(16), 1);
            due("row", x.row(sets[i]), 2);
            due("judge of " + sets[i], x.judge(), good[i] ? -9 : 1);
        }
        refusalsAre(x, 0, 0, 0, 0, 0, 0);
        due("uses", x.count(3), 0);
    }

    private static void judgedBlank() {
        about("JUDGED: shows no WANTED one, though it shows nothing");
        SlidesOverSlides x = lanternOf(plain(0), plain(3), want(3));
        due("row", x.row(2), 1);
        due("row", x.row(1), 2);
        due("judge", x.judge(), 1);
        for (int i = 1; i <= 5; i++) due("lantern", tell(x, want(i << 8)), 1);
        due("row", x.row(1), 1);
        due("judge with 6 WANTED PICTURES", x.judge(), 0);
    }

    private static void whoIsOfTheSet() {
        about("WHO: SLIDES of a set, none outside of it");
        SlidesOverSlides x = lanternOf(plain(1), plain(6));
        due("slide 1 is not in the set", x.who(1, 3, 0), 0);
        due("ways", x.who(1, 3, 1), 0);
        due("in the set", x.who(3, 3, 0), 2);
        due("of 16 dark cells each in turn", lanternOf(plain(ALL)).who(1, 0x7FFF, 0), 1);
    }

    private static void canByOneSideOnly() {
        about("CAN: each turned over or not, not both at once");
        // Slide 1 would be needed straight (cell 0) and turned over (cell 3).
        due("slide 0 turned over", lanternOf(plain(0x0010), plain(0x0001), want(0x0089)).can(-1), 0);
        due("slide 0 straight", lanternOf(plain(0x0080), plain(0x0001), want(0x0089)).can(-1), 0);
        due("one more of them", lanternOf(plain(0x0080), plain(0x0001), plain(0x0001), want(0x0089)).can(-1), 1);
    }

    private static void usesOf99() {
        about("USES of each is 1 more (99 at most)");
        SlidesOverSlides x = lanternOf(plain(0), plain(0));
        for (int i = 1; i <= 98; i++) x.project(1);
        due("uses", x.slide(0, 5), 98);
        x.project(1);
        due("uses", x.slide(0, 5), 99);
        x.project(1);
        due("uses", x.slide(0, 5), 99);
        x.project(3);
        due("uses", x.slide(0, 5), 99);
        due("uses of the other", x.slide(1, 5), 1);
        due("all uses", x.count(3), 100);
    }

    private static void crackAt99() {
        about("USES 99 at most, and cracks at 99 still");
        SlidesOverSlides x = lanternOf(plain(0x0018));
        x.heat(8);
        for (int i = 1; i <= 99; i++) x.project(1);
        due("uses", x.slide(0, 5), 99);
        due("the multiples of 8 crack cells 8 and 0 alone", x.slide(0, 2), 0x0018);
        x.heat(5);
        due("project", x.project(1), 0x0018);
        due("100 would crack cell 4", x.slide(0, 2), 0x0018);
        x.heat(3);
        due("project", x.project(1), 0x0018);
        due("99 can be divided by 3: cell 3", x.slide(0, 2), 0x0010);
    }

    private static void usesIn99InMind() {
        about("SEEDS: USES 99 at most in mind, too");
        SlidesOverSlides x = lanternOf(plain(0x001F));
        x.heat(7);
        for (int i = 1; i <= 98; i++) x.project(1);
        // 7 14 .. 98 modulo 16: 7 14 5 12 3 10 1 8 15 6 13 4 11 2
        due("painted", x.slide(0, 2), 0x0001);
        x.heat(4);
        // Were uses to go on, 112 would crack cell 0.
        due("40 shows", x.seeds(40, 1), 40);
        for (int i = 1; i <= 12; i++) x.row(1);
        due("lantern", tell(x, want(1)), 1);
        due("judge", x.judge(), -9);
    }

    private static void roundWithEight() {
        about("ROUND with all 8 SLIDES");
        SlidesOverSlides x = eight();
        due("lantern", tell(x, want(128) + want(255) + want(1)), 3);
        // 1 (1), 128 (2), all (7), in this order or with 1 and 128 changed.
        due("round", x.round(), 10);
        due("lantern", tell(x, want(0) + want(256)), 2);
        due("round, nothing first, one can't be shown", x.round(), 10);
        SlidesOverSlides y = lanternOf(plain(1), plain(2), plain(4), want(1), want(6));
        // Beginning with slide 0: 1 + 3; beginning with slides 1 and 2: 2 + 3.
        due("the first laid costs its SLIDES", y.round(), 4);
        SlidesOverSlides z = lanternOf(plain(1), plain(2), plain(4), want(3), want(4));
        due("the other way round", z.round(), 4);
    }

    private static void moreThanFourInARound() {
        about("ROUND: -9 more than 4");
        SlidesOverSlides x = lanternOf(plain(1), plain(2), plain(4), want(1), want(8), want(2), want(4));
        due("three that can be shown, one that can't", x.round(), 1 + 2 + 2);
        due("lantern", tell(x, want(7)), 1);
        // 1 (1), 7 by all (2), then 2 (2), 4 (2); or 1, 2, 4, 7 (2): 1 + 2 + 2 + 2.
        due("four", x.round(), 7);
        due("lantern", tell(x, want(3)), 1);
        due("five", x.round(), -9);
        SlidesOverSlides y = lanternOf(plain(1), want(1), want(1), want(1), want(1));
        due("four alike", y.round(), 1);
        due("lantern", tell(y, want(2)), 1);
        due("one more that can't be shown", y.round(), 1);
        due("lantern", tell(y, want(1)), 1);
        due("five alike", y.round(), -9);
    }

    public static void main(String[] args) {
        letters();
        heats();
        prices();
        rowSets();
        seedTimes();
        pictures();
        dustTenths();
        dustOfAllCells();
        slidesThatAreNotThere();
        setsThatAreNotThere();
        wantedThatAreNotThere();
        canOfAll();
        noSlides();
        noWanted();
        noneThatCanBeShown();
        noLetters();
        emptyRow();
        noImage();
        setWithoutSlides();
        pictureWithoutDark();
        fewestOfNone();
        noGaps();
        allUnlike();
        eightyLetters();
        eightSlides();
        eightTurned();
        allWays();
        sixWanted();
        twelveSets();
        oneToFourProjected();
        judgedOneToFour();
        judgedBlank();
        whoIsOfTheSet();
        canByOneSideOnly();
        usesOf99();
        crackAt99();
        usesIn99InMind();
        roundWithEight();
        moreThanFourInARound();
        end();
    }
}
