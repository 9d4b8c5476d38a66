/** A LANTERN's FAULT: kind 1 at each place with each sign, kind 2, which goes first, what comes and what does not. */
public final class FaultsTest extends Checks {
    private static final String OPENED = "swh";
    private static final String DIGITS = "0123456789";

    /** For each place of a statement the signs that may stand there; sixteen cells and ";" follow these. */
    private static String[] withCells(String... signs) {
        String[] all = new String[signs.length + 17];
        System.arraycopy(signs, 0, all, 0, signs.length);
        for (int i = 0; i < 16; i++) all[signs.length + i] = ".#";
        all[all.length - 1] = ";";
        return all;
    }

    private static void atEachPlace(String whole, String[] may) {
        for (String before : new String[] { "", "h5;", want(0x1234) }) {
            about("kind 1 in " + before + whole);
            for (int place = 0; place < whole.length(); place++) {
                String letters = before + whole.substring(0, place);
                lacksAtTheEnd(letters);
                cantGoOn(letters, may[place]);
                canGoOn(letters, may[place], place == whole.length() - 1);
            }
            due("whole", tell(new SlidesOverSlides(), before + whole), before.isEmpty() ? 1 : 2);
        }
    }

    private static void lacksAtTheEnd(String letters) {
        if (letters.endsWith(";")) return;
        due("lacks behind " + letters, tell(new SlidesOverSlides(), letters), -1000 - letters.length());
    }

    private static void cantGoOn(String letters, String may) {
        int place = letters.length();
        for (int sign = 0; sign <= 255; sign++) {
            if (may.indexOf(sign) >= 0) continue;
            SlidesOverSlides x = new SlidesOverSlides();
            due("feed", tell(x, letters + (char) sign), -1000 - place);
            due("sign " + sign + " behind " + letters, tell(x, letters + (char) sign + "h5;"), -1000 - place);
        }
    }

    /** A sign that may stand there is no fault: what lacks is looked for behind it. */
    private static void canGoOn(String letters, String may, boolean isLast) {
        if (isLast) return;
        for (int i = 0; i < may.length(); i++) {
            String longer = letters + may.charAt(i);
            due("lacks behind " + longer, tell(new SlidesOverSlides(), longer), -1000 - longer.length());
        }
    }

    private static void kindOne() {
        atEachPlace("s007,#..#.##.#..####.;", withCells(OPENED, DIGITS, DIGITS, DIGITS, DIGITS + ","));
        atEachPlace("s5912,#..#.##.#..####.;", withCells(OPENED, DIGITS, DIGITS, DIGITS, DIGITS + ",", ","));
        atEachPlace("w................;", withCells(OPENED));
        atEachPlace("h5;", new String[] { OPENED, DIGITS, ";" });
    }

    private static void firstOfTwo() {
        about("kind 1: the place of the first letter");
        due("two", tell(new SlidesOverSlides(), "h5,h5,"), -1002);
        due("a bad one, then a lack", tell(new SlidesOverSlides(), "hh"), -1001);
        due("a whole, a bad one", tell(new SlidesOverSlides(), "h5;x;h5;"), -1003);
    }

    private static void atTheLastLetter() {
        about("kind 1 with 80 letters");
        String text = plain(3) + want(3) + plain(12) + "w...............";
        due("80 letters, a cell lacks at place 78", tell(new SlidesOverSlides(), text + ";x"), -1078);
        due("80 letters, the last lacks", tell(new SlidesOverSlides(), text + ".#"), -1079);
        due("80 letters, \";\" lacks at the end", tell(new SlidesOverSlides(), plain(3) + "s0012," + cells(5) + ";" + want(3)
            + "w..............." + "."), -1080);
        due("80 letters, all good", tell(new SlidesOverSlides(), text + ".;"), 4);
    }

    private static void kindOfSlide() {
        about("kind 2: a number out of range, the KIND");
        for (int kind = 0; kind <= 9; kind++) {
            SlidesOverSlides x = new SlidesOverSlides();
            due("kind " + kind, tell(x, slideOf(kind, 0, 0, 5)), kind <= 5 ? 1 : -2000);
            due("slides", x.count(0), kind <= 5 ? 1 : 0);
            due("behind another, " + kind, tell(x, "h4;" + slideOf(kind, 0, 0, 5)), kind <= 5 ? 2 : -2003);
            due("heat", x.count(2), kind <= 5 ? 4 : 9);
        }
    }

    private static void heatOfStatement() {
        about("kind 2: a number out of range, the HEAT");
        for (int heat = 0; heat <= 9; heat++) {
            SlidesOverSlides x = new SlidesOverSlides();
            due("heat " + heat, tell(x, "h" + heat + ";"), heat >= 1 ? 1 : -2000);
            due("heat", x.count(2), heat >= 1 ? heat : 9);
        }
    }

    private static void numbersInRange() {
        about("FIGURE 0 .. 9 and PRICE 0 .. 99 are never out of range");
        for (int figure = 0; figure <= 9; figure++) {
            SlidesOverSlides x = new SlidesOverSlides();
            due("figure " + figure, tell(x, slideOf(0, figure, 0, 5)), 1);
            due("figure", x.slide(0, 1), figure);
        }
        String[] told = { "0", "9", "00", "09", "10", "90", "99" };
        int[] prices = { 0, 9, 0, 9, 10, 90, 99 };
        for (int i = 0; i < told.length; i++) {
            SlidesOverSlides x = new SlidesOverSlides();
            due("price " + told[i], tell(x, "s34" + told[i] + "," + cells(0x8001) + ";"), 1);
            due("price", x.slide(0, 4), prices[i]);
            due("kind", x.slide(0, 0), 3);
            due("figure", x.slide(0, 1), 4);
            due("painted", x.slide(0, 2), 0x8001);
            due("uses", x.slide(0, 5), 0);
        }
    }

    private static void noRoomForSlides() {
        about("kind 2: no room, SLIDES");
        SlidesOverSlides x = lanternOf(plain(1), plain(2), plain(3), plain(4), plain(5), plain(6), plain(7));
        due("the 9th in one lantern", tell(x, plain(8) + want(1) + plain(9)), -2040);
        due("the 8th did not come", x.count(0), 7);
        due("nor the picture", x.count(1), 0);
        due("the 8th", tell(x, plain(8)), 1);
        due("the 9th", tell(x, plain(9)), -2000);
        due("behind heat", tell(x, "h2;h3;" + plain(9)), -2006);
        due("heat", x.count(2), 9);
        due("others still come", tell(x, "h2;" + want(1)), 2);
        due("slides", x.count(0), 8);
        due("slide 7", x.slide(7, 2), 8);
        refusalsAre(x, 0, 0, 0, 0, 0, 0);
    }

    private static void noRoomForWanted() {
        about("kind 2: no room, WANTED PICTURES");
        SlidesOverSlides x = lanternOf(want(1), want(2), want(3), want(4), want(5));
        due("the 7th in one lantern", tell(x, want(6) + "h2;" + want(7)), -2021);
        due("the 6th did not come", x.count(1), 5);
        due("nor the heat", x.count(2), 9);
        due("the 6th", tell(x, want(6)), 1);
        due("the 7th", tell(x, want(7)), -2000);
        due("others still come", tell(x, plain(1) + "h2;"), 2);
        due("wanted", x.count(1), 6);
        due("wanted 5", x.wanted(5), 6);
        refusalsAre(x, 0, 0, 0, 0, 0, 0);
    }

    private static void firstOfStatements() {
        about("kind 2: the first STATEMENT that is not as it must be");
        due("two heats", tell(new SlidesOverSlides(), "h1;h0;h0;"), -2003);
        due("heat, then kind", tell(new SlidesOverSlides(), "h0;" + slideOf(9, 0, 0, 0)), -2000);
        due("kind, then heat", tell(new SlidesOverSlides(), want(0) + slideOf(6, 0, 0, 0) + "h0;"), -2018);
        due("at the last of 80 letters", tell(new SlidesOverSlides(), plain(1) + plain(2) + want(1) + "h1;h1;h1;h1;h1;h0;"),
            -2077);
    }

    private static void kindOneBeforeKindTwo() {
        about("kind 1 before kind 2");
        due("a bad letter behind", tell(new SlidesOverSlides(), "h0;x"), -1003);
        due("a lack behind", tell(new SlidesOverSlides(), "h0;s"), -1004);
        due("in the same statement", tell(new SlidesOverSlides(), "h0,"), -1002);
        due("in the same statement, a lack", tell(new SlidesOverSlides(), "h0"), -1002);
        due("kind 9, cells lack", tell(new SlidesOverSlides(), "s900,;"), -1005);
        SlidesOverSlides x = lanternOf(plain(1), plain(2), plain(3), plain(4), plain(5), plain(6), plain(7), plain(8));
        due("no room, a lack behind", tell(x, plain(9) + "h"), -1023);
        due("no room", tell(x, plain(9)), -2000);
    }

    private static SlidesOverSlides told() {
        SlidesOverSlides x = lanternOf(slideOf(2, 3, 44, 0x0F01), want(0x00FF));
        due("heat", x.heat(2), 9);
        due("project", x.project(1), 0x80F0);
        due("project", x.project(1), 0x80F0);
        due("image", x.image(), 1);
        due("row", x.row(1), 1);
        return x;
    }

    private static void nothingComes() {
        about("Without FAULT all of it comes, with one nothing (nothing is counted)");
        String[] faulty = { "", "x", "h", "h5", "h5;h", "h5;x", "h0;", "h5;h0;", want(1) + plain(1) + "h0;",
            plain(1) + slideOf(6, 0, 0, 0) + want(1), plain(1) + want(1) + "h7;s" };
        int[] faults = { -1000, -1000, -1001, -1002, -1004, -1003, -2000, -2003, -2040, -2022, -1044 };
        for (int i = 0; i < faulty.length; i++) {
            SlidesOverSlides x = told();
            due(faulty[i], tell(x, faulty[i]), faults[i]);
            due("letters are no more", x.count(5), 0);
            stillAlike(faulty[i], x, told(), 0);
        }
    }

    private static void allComes() {
        about("Without FAULT all of it comes");
        SlidesOverSlides x = told();
        due("lantern", tell(x, want(3) + slideOf(5, 9, 8, 0x8421) + "h7;" + plain(6) + "h3;"), 5);
        due("slides", x.count(0), 3);
        due("wanted", x.count(1), 2);
        due("the last heat", x.count(2), 3);
        due("slide 0 stays", x.slide(0, 5), 2);
        int[] second = { 5, 9, 0x8421, 0x1842, 8, 0 };
        int[] third = { 0, 0, 6, 6, 1, 0 };
        for (int what = 0; what <= 5; what++) {
            due("slide 1", x.slide(1, what), second[what]);
            due("slide 2", x.slide(2, what), third[what]);
        }
        due("wanted 0", x.wanted(0), 0x00FF);
        due("wanted 1", x.wanted(1), 3);
        due("the row stays", x.count(6), 1);
        refusalsAre(x, 0, 0, 0, 0, 0, 0);
    }

    private static void cellsInOrder() {
        about("CELL 4 y and x in row y, at place x, told as bits");
        for (int cell = 0; cell < 16; cell++) {
            StringBuilder text = new StringBuilder(BLANK);
            text.setCharAt(cell, '#');
            SlidesOverSlides x = new SlidesOverSlides();
            due("lantern", tell(x, "s001," + text + ";w" + text + ";"), 2);
            due("painted", x.slide(0, 2), 1 << cell);
            due("wanted", x.wanted(0), 1 << cell);
        }
    }

    private static void lettersAreNoMore() {
        about("The letters, which are no more then");
        SlidesOverSlides x = new SlidesOverSlides();
        due("good", tell(x, "h5;"), 1);
        due("letters", x.count(5), 0);
        due("bad", tell(x, "h5;x"), -1003);
        due("letters", x.count(5), 0);
        due("out of range", tell(x, "h0;"), -2000);
        due("letters", x.count(5), 0);
        due("half", tell(x, "h"), -1001);
        due("the other half", tell(x, "5;"), -1000);
        due("a shorter one behind a longer", tell(x, "h6"), -1002);
        due("heat", x.count(2), 5);
        refusalsAre(x, 0, 0, 0, 0, 0, 0);
    }

    public static void main(String[] args) {
        kindOne();
        firstOfTwo();
        atTheLastLetter();
        kindOfSlide();
        heatOfStatement();
        numbersInRange();
        noRoomForSlides();
        noRoomForWanted();
        firstOfStatements();
        kindOneBeforeKindTwo();
        nothingComes();
        allComes();
        cellsInOrder();
        lettersAreNoMore();
        end();
    }
}
