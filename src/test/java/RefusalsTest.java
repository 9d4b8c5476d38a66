/**
 * REFUSALS: "the call answers the number, the first that fits in the order in which it tells them; nothing changes but
 * how many there were". Each refusal of each promise alone, two and three at once; behind each the object is compared
 * with another that was made alike and not asked.
 */
public final class RefusalsTest extends Checks {
    private interface Maker {
        SlidesOverSlides make();
    }

    private interface Call {
        long on(SlidesOverSlides x);
    }

    /** Of the rich lantern's five slides: bits of slides that are not there, alone and beside one that is. */
    private static final int[] NO_SETS = { 32, 33, 63, 64, 128, 255, 256, 1 << 30, GREATEST, -1, -32, LEAST };
    private static final int[] NO_SLIDES = { 5, 6, 7, 8, 9, 31, 32, 33, GREATEST, -1, -2, -31, -32, LEAST };
    private static final int[] BELOW_0 = { -1, -2, -256, -65536, LEAST };
    private static final int[] ABOVE_PICTURES = { 65536, 65537, 131072, GREATEST };

    /** Slides of five kinds, two pictures, cracks, an image of something else, letters, a row, refusals. */
    private static SlidesOverSlides rich() {
        SlidesOverSlides x = new SlidesOverSlides();
        due("lantern", tell(x, slideOf(0, 0, 10, 0xFFFF) + slideOf(1, 2, 7, 0x0137) + "h5;"), 3);
        due("image", x.image(), 2);
        due("lantern", tell(x, slideOf(3, 1, 99, 0xFFF0) + slideOf(4, 9, 0, 0x0F0F) + slideOf(5, 6, 33, 0x1248)), 3);
        due("lantern", tell(x, want(0xFFFB) + want(0x0008) + "h2;"), 3);
        for (int i = 0; i < 3; i++) due("project", x.project(1), i < 2 ? 0xFFFF : 0xFFFB);
        due("refused", x.heat(0), -4);
        due("refused", x.project(0), -3);
        feedAll(x, "h3;" + want(5));
        due("row", x.row(1), 1);
        due("row", x.row(2), 2);
        return x;
    }

    private static SlidesOverSlides withFullLetters() {
        SlidesOverSlides x = new SlidesOverSlides();
        StringBuilder text = new StringBuilder(plain(3) + plain(5) + want(7));
        while (text.length() + 3 <= 80) text.append("h4;");
        while (text.length() < 80) text.append('h');
        feedAll(x, text.toString());
        return x;
    }

    private static SlidesOverSlides withFullRow() {
        SlidesOverSlides x = lanternOf(plain(3), want(3));
        for (int i = 1; i <= 12; i++) due("row", x.row(i < 12 ? 1 : 2), i);
        return x;
    }

    private static SlidesOverSlides empty() {
        return new SlidesOverSlides();
    }

    private static void refused(Maker maker, String call, int number, Call asked) {
        SlidesOverSlides x = maker.make();
        due(call, asked.on(x), number);
        stillAlike(call, x, maker.make(), number);
    }

    private static void refused(String call, int number, Call asked) {
        refused(RefusalsTest::rich, call, number, asked);
    }

    /** A refusal of a long: the number that is answered is told here as it stands. */
    private static void refusedLong(String call, int number, long answer, Call asked) {
        SlidesOverSlides x = rich();
        due(call, asked.on(x), answer);
        stillAlike(call, x, rich(), number);
    }

    private static void feed() {
        about("promise 2: -4");
        for (int v : BELOW_0) refused("feed(" + v + ")", -4, x -> x.feed(v));
        about("promise 2: -6 (255)");
        for (int v : new int[] { 256, 257, 65536, GREATEST }) refused("feed(" + v + ")", -6, x -> x.feed(v));
        about("promise 2: -6 (80, too)");
        for (int v : new int[] { 0, 'h', ';', 255 }) {
            refused(RefusalsTest::withFullLetters, "81st feed(" + v + ")", -6, x -> x.feed(v));
        }
        about("promise 2: -4 before -6");
        for (int v : BELOW_0) refused(RefusalsTest::withFullLetters, "81st feed(" + v + ")", -4, x -> x.feed(v));
        about("promise 2: -6 twice at once is one refusal");
        refused(RefusalsTest::withFullLetters, "81st feed(256)", -6, x -> x.feed(256));
    }

    private static void slide() {
        about("promise 4: -1");
        for (int i : NO_SLIDES) refused("slide(" + i + ", 0)", -1, x -> x.slide(i, 0));
        refused(RefusalsTest::empty, "slide(0, 0)", -1, x -> x.slide(0, 0));
        about("promise 4: -2");
        for (int what : new int[] { 6, 7, GREATEST, -1, LEAST }) {
            refused("slide(4, " + what + ")", -2, x -> x.slide(4, what));
            about("promise 4: -1 before -2");
            refused("slide(5, " + what + ")", -1, x -> x.slide(5, what));
        }
    }

    private static void wanted() {
        about("promise 5: -1");
        for (int i : new int[] { 2, 3, 5, 6, 7, GREATEST, -1, -2, LEAST }) {
            refused("wanted(" + i + ")", -1, x -> x.wanted(i));
        }
        refused(RefusalsTest::empty, "wanted(0)", -1, x -> x.wanted(0));
    }

    private static void heat() {
        about("promise 6: -4");
        for (int v : new int[] { 0, -1, -9, LEAST }) refused("heat(" + v + ")", -4, x -> x.heat(v));
        about("promise 6: -6 9");
        for (int v : new int[] { 10, 11, 99, GREATEST }) refused("heat(" + v + ")", -6, x -> x.heat(v));
    }

    private static void price() {
        about("promise 7: -1");
        for (int i : NO_SLIDES) refused("price(" + i + ", 5)", -1, x -> x.price(i, 5));
        refused(RefusalsTest::empty, "price(0, 5)", -1, x -> x.price(0, 5));
        about("promise 7: -4");
        for (int v : BELOW_0) refused("price(4, " + v + ")", -4, x -> x.price(4, v));
        about("promise 7: -6 99");
        for (int v : new int[] { 100, 101, GREATEST }) refused("price(4, " + v + ")", -6, x -> x.price(4, v));
        about("promise 7: -1 before -4");
        refused("price(5, -1)", -1, x -> x.price(5, -1));
        refused("price(-1, LEAST)", -1, x -> x.price(-1, LEAST));
        about("promise 7: -1 before -6");
        refused("price(5, 100)", -1, x -> x.price(5, 100));
        refused("price(-1, GREATEST)", -1, x -> x.price(-1, GREATEST));
    }

    private static void lay() {
        about("promise 8: -1 either");
        for (int set : NO_SETS) {
            refused("lay(" + set + ", 0)", -1, x -> x.lay(set, 0));
            refused("lay(31, " + set + ")", -1, x -> x.lay(31, set));
            refused("lay(0, " + set + ")", -1, x -> x.lay(0, set));
        }
        refused(RefusalsTest::empty, "lay(1, 0)", -1, x -> x.lay(1, 0));
        refused(RefusalsTest::empty, "lay(0, 1)", -1, x -> x.lay(0, 1));
        about("promise 8: -1 of both is one refusal");
        refused("lay(32, 32)", -1, x -> x.lay(32, 32));
        refused("lay(LEAST, GREATEST)", -1, x -> x.lay(LEAST, GREATEST));
    }

    private static void project() {
        about("promise 9: -1");
        for (int set : new int[] { 32, 33, 64, 256, LEAST }) refused("project(" + set + ")", -1, x -> x.project(set));
        refused(RefusalsTest::empty, "project(1)", -1, x -> x.project(1));
        about("promise 9: -3 none");
        refused("project(0)", -3, x -> x.project(0));
        refused(RefusalsTest::empty, "project(0)", -3, x -> x.project(0));
        about("promise 9: -3 more than 4");
        refused("project(31)", -3, x -> x.project(31));
        about("promise 9: -1 before -3");
        for (int set : new int[] { 47, 63, 255, GREATEST, -1 }) refused("project(" + set + ")", -1, x -> x.project(set));
    }

    private interface Asked {
        long on(SlidesOverSlides x, int picture, int what);
    }

    /** The refusals of calls that take a picture and a what: -2; -4; -6 65535. */
    private static void pictureAndWhat(String name, int mostWhat, Asked call) {
        int[] noWhats = { mostWhat + 1, mostWhat + 2, GREATEST, -1, -2, LEAST };
        about(name + ": -2");
        for (int what : noWhats) refused(name + " what " + what, -2, x -> call.on(x, 0xFFFF, what));
        for (int what = 0; what <= mostWhat; what++) {
            int w = what;
            about(name + ": -4");
            for (int p : BELOW_0) refused(name + " of " + p, -4, x -> call.on(x, p, w));
            about(name + ": -6 65535");
            for (int p : ABOVE_PICTURES) refused(name + " of " + p, -6, x -> call.on(x, p, w));
        }
        for (int what : noWhats) {
            about(name + ": -2 before -4");
            refused(name + " of -1, what " + what, -2, x -> call.on(x, -1, what));
            about(name + ": -2 before -6");
            refused(name + " of 65536, what " + what, -2, x -> call.on(x, 65536, what));
        }
    }

    private static void picturesWithWhat() {
        pictureAndWhat("promise 10: gaps", 1, (x, p, what) -> x.gaps(p, what));
        pictureAndWhat("promise 11: nearest", 1, (x, p, what) -> x.nearest(p, what));
        pictureAndWhat("promise 12: fewest", 3, (x, p, what) -> x.fewest(p, what));
        pictureAndWhat("promise 17: sure", 2, (x, p, what) -> x.sure(3, p, what));
        pictureAndWhat("promise 18: who", 1, (x, p, what) -> x.who(3, p, what));
        about("promises 11, 12: a refusal where -9 would be the answer");
        refused(RefusalsTest::empty, "nearest(0, 2)", -2, x -> x.nearest(0, 2));
        refused(RefusalsTest::empty, "nearest(-1, 0)", -4, x -> x.nearest(-1, 0));
        refused(RefusalsTest::empty, "nearest(65536, 0)", -6, x -> x.nearest(65536, 0));
        refused(RefusalsTest::empty, "fewest(1, 4)", -2, x -> x.fewest(1, 4));
        refused("sure(1, 0, 3), which can't be", -2, x -> x.sure(1, 0, 3));
    }

    private static void picturesAlone() {
        about("promise 13: -4");
        for (int p : BELOW_0) refused("cheapest(" + p + ")", -4, x -> x.cheapest(p));
        about("promise 13: -6 65535");
        for (int p : ABOVE_PICTURES) refused("cheapest(" + p + ")", -6, x -> x.cheapest(p));
        about("promise 14: -4");
        for (int p : BELOW_0) refused("near(" + p + ")", -4, x -> x.near(p));
        about("promise 14: -6 65535");
        for (int p : ABOVE_PICTURES) refused("near(" + p + ")", -6, x -> x.near(p));
    }

    private static void slidesAlone() {
        about("promise 15: -1 (below -1, too)");
        for (int i : NO_SLIDES) {
            if (i != -1) refused("can(" + i + ")", -1, x -> x.can(i));
        }
        refused(RefusalsTest::empty, "can(0)", -1, x -> x.can(0));
        refused(RefusalsTest::empty, "can(-2)", -1, x -> x.can(-2));
        about("promise 16: -1");
        for (int i : NO_SLIDES) refused("worth(" + i + ")", -1, x -> x.worth(i));
        refused(RefusalsTest::empty, "worth(0)", -1, x -> x.worth(0));
        refused(RefusalsTest::empty, "worth(-1)", -1, x -> x.worth(-1));
    }

    private static void setsWithPictures() {
        about("promise 17: -1");
        for (int set : NO_SETS) refused("sure(" + set + ", 7, 0)", -1, x -> x.sure(set, 7, 0));
        refused(RefusalsTest::empty, "sure(1, 7, 0)", -1, x -> x.sure(1, 7, 0));
        about("promise 17: -1 before -2, -4, -6");
        refused("sure(32, 7, 3)", -1, x -> x.sure(32, 7, 3));
        refused("sure(32, -1, 0)", -1, x -> x.sure(32, -1, 0));
        refused("sure(32, 65536, 0)", -1, x -> x.sure(32, 65536, 0));
        refused("sure(-1, -1, -1)", -1, x -> x.sure(-1, -1, -1));
        about("promise 18: -1");
        for (int set : NO_SETS) refused("who(" + set + ", 7, 0)", -1, x -> x.who(set, 7, 0));
        refused(RefusalsTest::empty, "who(1, 7, 0)", -1, x -> x.who(1, 7, 0));
        about("promise 18: -1 before -2, -4, -6");
        refused("who(32, 7, 2)", -1, x -> x.who(32, 7, 2));
        refused("who(32, -1, 0)", -1, x -> x.who(32, -1, 0));
        refused("who(32, 65536, 0)", -1, x -> x.who(32, 65536, 0));
        refused("who(-1, -1, -1)", -1, x -> x.who(-1, -1, -1));
    }

    private static void dust() {
        long no1 = 4000000000000000001L;
        long no2 = 4000000000000000002L;
        about("promise 19: -1");
        for (int set : NO_SETS) refusedLong("dust(" + set + ", 1, 0)", -1, no1, x -> x.dust(set, 1, 0));
        about("promise 19: -2");
        for (int part : new int[] { 2, 3, GREATEST, -1, LEAST }) {
            refusedLong("dust(1, 1, " + part + ")", -2, no2, x -> x.dust(1, 1, part));
        }
        about("promise 19: -4");
        for (int d : BELOW_0) refusedLong("dust(1, " + d + ", 0)", -4, 4000000000000000004L, x -> x.dust(1, d, 0));
        about("promise 19: -6 9");
        for (int d : new int[] { 10, 11, GREATEST }) {
            refusedLong("dust(1, " + d + ", 1)", -6, 4000000000000000006L, x -> x.dust(1, d, 1));
        }
        about("promise 19: -1 before -2, -4, -6");
        refusedLong("dust(32, 1, 2)", -1, no1, x -> x.dust(32, 1, 2));
        refusedLong("dust(32, -1, 0)", -1, no1, x -> x.dust(32, -1, 0));
        refusedLong("dust(32, 10, 0)", -1, no1, x -> x.dust(32, 10, 0));
        refusedLong("dust(-1, -1, -1)", -1, no1, x -> x.dust(-1, -1, -1));
        about("promise 19: -2 before -4, -6");
        refusedLong("dust(1, -1, 2)", -2, no2, x -> x.dust(1, -1, 2));
        refusedLong("dust(1, 10, -1)", -2, no2, x -> x.dust(1, 10, -1));
    }

    private static void row() {
        about("promise 21: -4");
        for (int v : BELOW_0) refused("row(" + v + ")", -4, x -> x.row(v));
        about("promise 21: -6 (255)");
        for (int v : new int[] { 256, 257, 65536, GREATEST }) refused("row(" + v + ")", -6, x -> x.row(v));
        about("promise 21: -6 (12, too)");
        for (int v : new int[] { 0, 1, 255 }) refused(RefusalsTest::withFullRow, "13th row(" + v + ")", -6, x -> x.row(v));
        about("promise 21: -4 before -6");
        for (int v : BELOW_0) refused(RefusalsTest::withFullRow, "13th row(" + v + ")", -4, x -> x.row(v));
        about("promise 21: -6 twice at once is one refusal");
        refused(RefusalsTest::withFullRow, "13th row(256)", -6, x -> x.row(256));
    }

    private static void seeds() {
        int[] below = { 0, -1, -40, LEAST };
        int[] above = { 41, 42, 255, GREATEST };
        about("promise 23: -4");
        for (int n : below) refused("seeds(" + n + ", 1)", -4, x -> x.seeds(n, 1));
        about("promise 23: -6 40");
        for (int n : above) refused("seeds(" + n + ", 1)", -6, x -> x.seeds(n, 1));
        about("promise 23: -3 there are no SLIDES");
        for (int n : new int[] { 1, 2, 40 }) refused(RefusalsTest::empty, "seeds(" + n + ", 1)", -3, x -> x.seeds(n, 1));
        refused(() -> lanternOf(want(0), "h2;"), "seeds(1, 1) without slides", -3, x -> x.seeds(1, 1));
        about("promise 23: -4 before -3");
        for (int n : below) refused(RefusalsTest::empty, "seeds(" + n + ", 1)", -4, x -> x.seeds(n, 1));
        about("promise 23: -6 before -3");
        for (int n : above) refused(RefusalsTest::empty, "seeds(" + n + ", 1)", -6, x -> x.seeds(n, 1));
    }

    private static void restore() {
        about("promise 25: -3 there is none");
        refused(RefusalsTest::empty, "restore()", -3, x -> x.restore());
        refused(RefusalsTest::withFullLetters, "restore()", -3, x -> x.restore());
        refused(RefusalsTest::withFullRow, "restore()", -3, x -> x.restore());
    }

    private static void unchanged(String call, long want, Call asked) {
        SlidesOverSlides x = rich();
        due(call, asked.on(x), want);
        stillAlike(call, x, rich(), 0);
    }

    /** In mind nothing is used, and an answer -9 is no refusal. */
    private static void notRefused() {
        about("in mind (nothing is used), and -9 is not counted");
        unchanged("lay(31, 31)", 0xFFFF, x -> x.lay(31, 31));
        unchanged("gaps(0, 1)", 1, x -> x.gaps(0, 1));
        unchanged("nearest(0, 0)", 1, x -> x.nearest(0, 0));
        unchanged("fewest(4096, 0)", -9, x -> x.fewest(0x1000, 0));
        unchanged("fewest(65531, 0)", 1, x -> x.fewest(0xFFFB, 0));
        unchanged("cheapest(4096)", -9, x -> x.cheapest(0x1000));
        unchanged("cheapest(65531)", 10, x -> x.cheapest(0xFFFB));
        unchanged("near(4096)", 1, x -> x.near(0x1000));
        unchanged("can(-1)", 1, x -> x.can(-1));
        unchanged("worth(0)", 1, x -> x.worth(0));
        unchanged("sure(1, 0, 0)", -9, x -> x.sure(1, 0, 0));
        unchanged("sure(1, 65535, 0)", 4, x -> x.sure(1, 0xFFFF, 0));
        unchanged("who(1, 65530, 0)", 1, x -> x.who(1, 0xFFFA, 0));
        unchanged("dust(1, 5, 1)", 2, x -> x.dust(1, 5, 1));
        unchanged("round()", 1, x -> x.round());
        unchanged("count(7)", -9, x -> x.count(7));
        unchanged("count(10)", -9, x -> x.count(10));
        unchanged("count(17)", -9, x -> x.count(17));
        unchanged("seeds(40, 7), twice the same", 0, x -> x.seeds(40, 7) - x.seeds(40, 7));
    }

    /** "-1 .. -6" are told by 11 .. 16, each by its own. */
    private static void counted() {
        about("promise 26: 11 .. 16 REFUSALS -1 .. -6");
        SlidesOverSlides x = lanternOf(plain(1));
        for (int i = 0; i < 2; i++) due("slide(1, 0)", x.slide(1, 0), -1);
        refusalsAre(x, 2, 0, 0, 0, 0, 0);
        for (int i = 0; i < 3; i++) due("gaps(0, 2)", x.gaps(0, 2), -2);
        refusalsAre(x, 2, 3, 0, 0, 0, 0);
        for (int i = 0; i < 4; i++) due("project(0)", x.project(0), -3);
        refusalsAre(x, 2, 3, 4, 0, 0, 0);
        for (int i = 0; i < 5; i++) due("heat(0)", x.heat(0), -4);
        refusalsAre(x, 2, 3, 4, 5, 0, 0);
        for (int i = 0; i < 6; i++) due("heat(10)", x.heat(10), -6);
        refusalsAre(x, 2, 3, 4, 5, 0, 6);
        due("dust(2, 0, 0)", x.dust(2, 0, 0), 4000000000000000001L);
        due("dust(1, 0, 2)", x.dust(1, 0, 2), 4000000000000000002L);
        due("dust(1, -1, 0)", x.dust(1, -1, 0), 4000000000000000004L);
        due("dust(1, 10, 0)", x.dust(1, 10, 0), 4000000000000000006L);
        refusalsAre(x, 3, 4, 4, 6, 0, 7);
        for (int what : new int[] { 7, 8, 9, 10, 17, 18, -1, LEAST, GREATEST }) due("count " + what, x.count(what), -9);
        refusalsAre(x, 3, 4, 4, 6, 0, 7);
    }

    public static void main(String[] args) {
        feed();
        slide();
        wanted();
        heat();
        price();
        lay();
        project();
        picturesWithWhat();
        picturesAlone();
        slidesAlone();
        setsWithPictures();
        dust();
        row();
        seeds();
        restore();
        notRefused();
        counted();
        end();
    }
}
