/** THE IMAGE: all that there is, but it, letters, the ROW, REFUSALS; taken twice, restored twice. */
public final class ImageTest extends Checks {
    private static final int ALL = 65535;

    /** Two slides, two pictures, heat 2, slide 0 used and cracked once. */
    private static SlidesOverSlides first() {
        SlidesOverSlides x = new SlidesOverSlides();
        due("lantern", tell(x, slideOf(0, 3, 10, ALL) + slideOf(4, 5, 20, 0x00F0) + want(0xFFFB) + "h2;"), 4);
        due("lantern", tell(x, want(0x00D0)), 1);
        for (int i = 0; i < 2; i++) due("project", x.project(1), ALL);
        return x;
    }

    private static void isFirst(SlidesOverSlides x) {
        int[] counts = { 2, 2, 2, 2, 30 };
        for (int what = 0; what <= 4; what++) due("count(" + what + ")", x.count(what), counts[what]);
        int[] slide0 = { 0, 3, 0xFFFB, 0xFFFB, 10, 2 };
        int[] slide1 = { 4, 5, 0x00F0, 0x00D0, 20, 0 };
        for (int what = 0; what <= 5; what++) {
            due("slide(0, " + what + ")", x.slide(0, what), slide0[what]);
            due("slide(1, " + what + ")", x.slide(1, what), slide1[what]);
        }
        due("wanted(0)", x.wanted(0), 0xFFFB);
        due("wanted(1)", x.wanted(1), 0x00D0);
        due("lay", x.lay(3, 2), ALL - 4);
        due("can", x.can(-1), 3);
        due("round", x.round(), 2);
    }

    private static void change(SlidesOverSlides x) {
        due("heat", x.heat(1), 2);
        due("price", x.price(0, 99), 10);
        due("price", x.price(1, 0), 20);
        due("project", x.project(3), 0xFFFB);
        due("lantern", tell(x, plain(1) + want(1) + "h3;"), 3);
        due("project", x.project(4), 1);
    }

    private static void allThatThereIs() {
        about("THE IMAGE: all that there is");
        SlidesOverSlides x = first();
        due("image", x.image(), 2);
        isFirst(x);
        change(x);
        due("slides", x.count(0), 3);
        due("restore", x.restore(), 2);
        isFirst(x);
        refusalsAre(x, 0, 0, 0, 0, 0, 0);
    }

    private static void eachAlone() {
        about("THE IMAGE: each thing alone comes back");
        SlidesOverSlides x = first();
        due("image", x.image(), 2);
        due("heat", x.heat(7), 2);
        due("restore", x.restore(), 2);
        due("heat", x.count(2), 2);
        due("price", x.price(1, 7), 20);
        due("restore", x.restore(), 2);
        due("price", x.slide(1, 4), 20);
        due("project, no crack", x.project(1), 0xFFFB);
        due("restore", x.restore(), 2);
        due("uses", x.slide(0, 5), 2);
        due("lantern", tell(x, plain(1)), 1);
        due("restore", x.restore(), 2);
        due("slide 2", x.slide(2, 0), -1);
        due("lantern", tell(x, want(1)), 1);
        due("restore", x.restore(), 2);
        due("wanted 2", x.wanted(2), -1);
        isFirst(x);
    }

    private static void butLetters() {
        about("THE IMAGE: but letters");
        SlidesOverSlides x = first();
        feedAll(x, "h");
        due("image", x.image(), 2);
        due("letters stay at the image", x.count(5), 1);
        due("feed", x.feed('6'), 2);
        due("restore", x.restore(), 2);
        due("letters stay", x.count(5), 2);
        due("feed", x.feed(';'), 3);
        due("lantern", x.lantern(), 1);
        due("heat", x.count(2), 6);
        due("restore", x.restore(), 2);
        due("letters do not come back", x.count(5), 0);
        due("lantern", x.lantern(), -1000);
    }

    private static void butTheRow() {
        about("THE IMAGE: but the ROW");
        SlidesOverSlides x = first();
        due("row", x.row(1), 1);
        due("image", x.image(), 2);
        due("the row stays at the image", x.count(6), 1);
        due("row", x.row(0), 2);
        due("restore", x.restore(), 2);
        due("the row stays", x.count(6), 2);
        due("judge", x.judge(), 1);
        due("restore", x.restore(), 2);
        due("the row does not come back", x.count(6), 0);
        due("judge", x.judge(), -9);
    }

    private static void butRefusals() {
        about("THE IMAGE: but REFUSALS");
        SlidesOverSlides x = first();
        due("refused", x.heat(0), -4);
        due("image", x.image(), 2);
        due("refused", x.heat(0), -4);
        due("refused", x.heat(10), -6);
        due("restore", x.restore(), 2);
        refusalsAre(x, 0, 0, 0, 2, 0, 1);
    }

    private static void butIt() {
        about("THE IMAGE: but it (it stays when it is restored)");
        SlidesOverSlides x = first();
        due("no image", x.restore(), -3);
        due("image", x.image(), 2);
        for (int i = 0; i < 3; i++) {
            change(x);
            due("restore", x.restore(), 2);
            isFirst(x);
        }
        due("restore at once again", x.restore(), 2);
        isFirst(x);
        refusalsAre(x, 0, 0, 1, 0, 0, 0);
    }

    private static void takenTwice() {
        about("THE IMAGE taken twice: the later one is restored");
        SlidesOverSlides x = lanternOf(plain(1));
        due("image", x.image(), 1);
        due("lantern", tell(x, plain(2) + plain(4)), 2);
        due("image", x.image(), 3);
        due("heat", x.heat(1), 9);
        due("restore", x.restore(), 3);
        due("slides", x.count(0), 3);
        due("slide 2", x.slide(2, 2), 4);
        due("heat", x.count(2), 9);
        due("heat", x.heat(4), 9);
        due("image, the same slides", x.image(), 3);
        due("heat", x.heat(5), 4);
        due("restore", x.restore(), 3);
        due("heat", x.count(2), 4);
    }

    private static void smallerAndLarger() {
        about("THE IMAGE of less, of more, of nothing");
        SlidesOverSlides x = new SlidesOverSlides();
        due("image of nothing", x.image(), 0);
        due("lantern", tell(x, plain(ALL) + want(7) + "h1;"), 3);
        due("project", x.project(1), ALL);
        due("restore", x.restore(), 0);
        int[] counts = { 0, 0, 9, 0, 0 };
        for (int what = 0; what <= 4; what++) due("count(" + what + ")", x.count(what), counts[what]);
        due("slide 0", x.slide(0, 0), -1);
        due("wanted 0", x.wanted(0), -1);
        due("lay", x.lay(1, 0), -1);
        due("lantern", tell(x, plain(6)), 1);
        due("a new slide has no uses", x.slide(0, 5), 0);
        due("and its own cells", x.slide(0, 2), 6);
        due("image", x.image(), 1);
        due("lantern", tell(x, plain(7) + plain(8)), 2);
        due("restore", x.restore(), 1);
        due("lantern", tell(x, plain(9)), 1);
        due("slide 1", x.slide(1, 2), 9);
        due("slide 2", x.slide(2, 2), -1);
    }

    private static void whatIsGoneDoesNotHelp() {
        about("THE IMAGE of less: what is gone does not help to show");
        SlidesOverSlides x = lanternOf(priced(5, 0x0001), want(0x0001), want(ALL));
        due("image", x.image(), 1);
        due("lantern", tell(x, plain(ALL - 1) + want(0x0100)), 2);
        isShown(x, 2, 6, 0, 3, 2);
        due("restore", x.restore(), 1);
        isShown(x, -9, -9, 15, 1, 1);
        due("row", x.row(1), 1);
        due("row", x.row(2), 2);
        due("judge", x.judge(), 1);
        due("nearest", x.nearest(0x0100, 1), 2);
        due("lantern", tell(x, plain(0x0100)), 1);
        due("row", x.row(2), 1);
        due("a picture that is gone is not WANTED", x.judge(), 0);
    }

    private static void isShown(SlidesOverSlides x, int fewest, int cheapest, int near, int can, int round) {
        due("fewest", x.fewest(ALL, 0), fewest);
        due("cheapest", x.cheapest(ALL), cheapest);
        due("can", x.can(-1), can);
        due("round", x.round(), round);
        due("near", x.near(ALL), near);
    }

    private static void usesAtFirst() {
        about("USES (0 at first), whatever was tried in mind before");
        SlidesOverSlides x = new SlidesOverSlides();
        due("image", x.image(), 0);
        due("lantern", tell(x, plain(3) + want(3)), 2);
        due("seeds", x.seeds(5, 1), 10);
        for (int i = 1; i <= 4; i++) due("row", x.row(1), i);
        due("judge", x.judge(), -9);
        due("restore", x.restore(), 0);
        due("lantern", tell(x, plain(3)), 1);
        due("uses", x.slide(0, 5), 0);
        due("all uses", x.count(3), 0);
    }

    private static void full() {
        about("THE IMAGE of 8 SLIDES and 6 WANTED PICTURES");
        SlidesOverSlides x = new SlidesOverSlides();
        due("lantern", tell(x, plain(1) + plain(2) + plain(3)), 3);
        due("lantern", tell(x, plain(4) + plain(5) + plain(6)), 3);
        due("lantern", tell(x, plain(7) + plain(8) + want(11) + want(12)), 4);
        due("lantern", tell(x, want(13) + want(14) + want(15) + want(16)), 4);
        due("image", x.image(), 8);
        for (int i = 0; i < 8; i++) due("price", x.price(i, 50 + i), 1);
        due("project", x.project(128), 8);
        due("restore", x.restore(), 8);
        for (int i = 0; i < 8; i++) {
            due("painted", x.slide(i, 2), i + 1);
            due("price", x.slide(i, 4), 1);
            due("uses", x.slide(i, 5), 0);
        }
        for (int i = 0; i < 6; i++) due("wanted", x.wanted(i), 11 + i);
        due("no room", tell(x, plain(1)), -2000);
        due("no room", tell(x, want(1)), -2000);
    }

    private static void notByMind() {
        about("THE IMAGE is not changed by what is tried in mind");
        SlidesOverSlides x = first();
        due("image", x.image(), 2);
        due("row", x.row(1), 1);
        due("row", x.row(2), 2);
        due("judge", x.judge(), -9);
        due("seeds", x.seeds(40, 5) > 0 ? 1 : 0, 1);
        due("faulty lantern", tell(x, plain(1) + want(1) + "h0;"), -2040);
        due("restore", x.restore(), 2);
        isFirst(x);
    }

    public static void main(String[] args) {
        allThatThereIs();
        eachAlone();
        butLetters();
        butTheRow();
        butRefusals();
        butIt();
        takenTwice();
        smallerAndLarger();
        whatIsGoneDoesNotHelp();
        usesAtFirst();
        full();
        notByMind();
        end();
    }
}
