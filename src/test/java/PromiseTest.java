/** Each promise of the document with answers worked out by hand: ordinary calls, edges, refusals. */
public final class PromiseTest extends Checks {
    /** One slide of each kind. */
    private static final String[] KINDS = {
        "s0010,####............;", // on it 0x000F
        "s1020,#...............;", // on it 0x0008
        "s245,#...#...........;",  // on it 0x8800
        "s3030,....############;", // on it 0x000F
        "s405,##..............;",  // on it 0x0002
        "s517,###.............;",  // on it 0x000A
    };

    private static void aNewObject() {
        SlidesOverSlides x = new SlidesOverSlides();
        for (int what = 0; what <= 6; what++) due("count " + what, x.count(what), what == 2 ? 9 : 0);
        refusalsAre(x, 0, 0, 0, 0, 0, 0);
        due("restore", x.restore(), -3);
        due("judge", x.judge(), -9);
        due("lantern", x.lantern(), -1000);
    }

    private static void feed() {
        SlidesOverSlides x = new SlidesOverSlides();
        due("feed -1", x.feed(-1), -4);
        due("feed least", x.feed(Integer.MIN_VALUE), -4);
        due("feed 256", x.feed(256), -6);
        due("feed greatest", x.feed(Integer.MAX_VALUE), -6);
        due("feed 0", x.feed(0), 1);
        due("feed 255", x.feed(255), 2);
        for (int i = 3; i <= 80; i++) due("feed", x.feed('h'), i);
        due("feed 81st", x.feed('h'), -6);
        due("feed 81st below", x.feed(-1), -4);
        due("count 5", x.count(5), 80);
        refusalsAre(x, 0, 0, 0, 3, 0, 3);
    }

    private static void lanternForm() {
        String s = "s0012,#...#...#...#..#;";
        String w = "w#...#...#...#...;";
        String[] good = { "h1;", "h9;h1;", s, w, "s000," + BLANK + ";", s + w + "h3;", "s5999," + BLANK + ";" };
        int[] statements = { 1, 2, 1, 1, 1, 3, 1 };
        for (int i = 0; i < good.length; i++) due(good[i], tell(new SlidesOverSlides(), good[i]), statements[i]);
        for (String whole : new String[] { s, w, "h4;", s + w + "h4;" }) {
            for (int n = 0; n < whole.length(); n++) {
                String part = whole.substring(0, n);
                boolean isWhole = n > 0 && part.charAt(n - 1) == ';';
                if (!isWhole) due("lack " + part, tell(new SlidesOverSlides(), part), -1000 - n);
                due("bad " + part, tell(new SlidesOverSlides(), part + "x" + whole.substring(n)), -1000 - n);
            }
        }
        String[] bad = { ";", "S", "h;", "h12;", "s00,", "s00123,", "s,", "sx", "w.;", w + ";", "h1; h2;", "h1;;",
            "w#################;", "s001.;", "h-1;", "s00/,", "s00:,", "s001,/", "0" };
        int[] places = { 0, 0, 1, 2, 3, 5, 1, 1, 2, 18, 3, 3, 17, 4, 1, 3, 3, 5, 0 };
        for (int i = 0; i < bad.length; i++) due(bad[i], tell(new SlidesOverSlides(), bad[i]), -1000 - places[i]);
        StringBuilder full = new StringBuilder();
        for (int i = 0; i < 26; i++) full.append("h1;");
        due("26 heats", tell(new SlidesOverSlides(), full.toString()), 26);
        due("80 letters, one lacks", tell(new SlidesOverSlides(), full + "h1"), -1080);
    }

    private static void lanternRange() {
        SlidesOverSlides x = new SlidesOverSlides();
        due("heat 0", tell(x, "h5;h0;h3;"), -2003);
        due("heat stays", x.count(2), 9);
        due("kind 6", tell(x, "h5;s600," + BLANK + ";"), -2003);
        due("kind 9", tell(x, "s900," + BLANK + ";"), -2000);
        due("form goes before range", tell(x, "h0;x"), -1003);
        due("lack goes before range", tell(x, "h0;h"), -1004);
        due("nothing came", x.count(0), 0);
        due("letters are gone", x.count(5), 0);
        refusalsAre(x, 0, 0, 0, 0, 0, 0);
    }

    private static void lanternRoom() {
        SlidesOverSlides x = new SlidesOverSlides();
        due("3 slides", tell(x, plain(1) + plain(2) + plain(4)), 3);
        due("6 slides", tell(x, plain(8) + plain(16) + plain(32)), 3);
        due("9 slides", tell(x, plain(64) + plain(128) + plain(256)), -2044);
        due("still 6", x.count(0), 6);
        due("8 slides", tell(x, plain(64) + plain(128)), 2);
        due("no room", tell(x, "h4;" + plain(1)), -2003);
        due("heat stays", x.count(2), 9);
        due("4 wanted", tell(x, want(1) + want(2) + want(4) + want(8)), 4);
        due("7 wanted", tell(x, want(1) + want(2) + want(4)), -2036);
        due("6 wanted", tell(x, want(16) + "h7;" + want(32)), 3);
        due("no room", tell(x, want(1)), -2000);
        due("wanted 5", x.wanted(5), 32);
        due("slide 7", x.slide(7, 2), 128);
        due("heat 7", x.count(2), 7);
    }

    private static void slide() {
        SlidesOverSlides x = lanternOf(KINDS);
        int[] on = { 0x000F, 0x0008, 0x8800, 0x000F, 0x0002, 0x000A };
        int[] painted = { 0x000F, 0x0001, 0x0011, 0xFFF0, 0x0003, 0x0007 };
        int[] figures = { 0, 0, 4, 0, 0, 1 };
        int[] prices = { 10, 20, 5, 30, 5, 7 };
        for (int i = 0; i < 6; i++) {
            due("kind " + i, x.slide(i, 0), i);
            due("figure " + i, x.slide(i, 1), figures[i]);
            due("painted " + i, x.slide(i, 2), painted[i]);
            due("on " + i, x.slide(i, 3), on[i]);
            due("price " + i, x.slide(i, 4), prices[i]);
            due("uses " + i, x.slide(i, 5), 0);
        }
        due("slide 6", x.slide(6, 0), -1);
        due("slide -1", x.slide(-1, 0), -1);
        due("slide 6 before what", x.slide(6, 6), -1);
        due("what 6", x.slide(5, 6), -2);
        due("what -1", x.slide(0, -1), -2);
        refusalsAre(x, 3, 2, 0, 0, 0, 0);
    }

    private static void kinds() {
        SlidesOverSlides x = lanternOf("s100,##.....#........;", "s200,##.....#.......#;", "s300," + BLANK + ";",
            "s490,################;", "s590,################;", "s560,#..##...........;", "s580,...#............;",
            "s540,#..##...........;");
        int[] on = { 0x001C, 0xC101, 0xFFFF, 0xFDFF, 0xFBFF, 0x0046, 0x0008, 0x0009 };
        for (int i = 0; i < 8; i++) due("on " + i, x.slide(i, 3), on[i]);
    }

    private static void wanted() {
        SlidesOverSlides x = lanternOf(want(0x8001), want(0x0100));
        due("wanted 0", x.wanted(0), 0x8001);
        due("wanted 1", x.wanted(1), 0x0100);
        due("wanted 2", x.wanted(2), -1);
        due("wanted -1", x.wanted(-1), -1);
        due("wanted least", x.wanted(Integer.MIN_VALUE), -1);
        refusalsAre(x, 3, 0, 0, 0, 0, 0);
    }

    private static void heat() {
        SlidesOverSlides x = new SlidesOverSlides();
        due("heat 1", x.heat(1), 9);
        due("heat 9", x.heat(9), 1);
        due("heat 0", x.heat(0), -4);
        due("heat 10", x.heat(10), -6);
        due("heat 4", x.heat(4), 9);
        due("count 2", x.count(2), 4);
        refusalsAre(x, 0, 0, 0, 1, 0, 1);
    }

    private static void price() {
        SlidesOverSlides x = lanternOf(plain(1), "s0099," + BLANK + ";");
        due("price 1", x.price(1, 0), 99);
        due("price 1 again", x.price(1, 99), 0);
        due("price 0", x.price(0, 7), 1);
        due("price 2", x.price(2, 100), -1);
        due("price -1", x.price(-1, -1), -1);
        due("price below", x.price(0, -1), -4);
        due("price above", x.price(0, 100), -6);
        due("slide price", x.slide(0, 4), 7);
        due("all prices", x.count(4), 106);
        refusalsAre(x, 2, 0, 0, 1, 0, 1);
    }

    private static void lay() {
        SlidesOverSlides x = lanternOf(KINDS);
        due("none", x.lay(0, 0), 0);
        due("none, some over", x.lay(0, 63), 0);
        due("one", x.lay(2, 0), 0x0008);
        due("one over", x.lay(2, 2), 0x0001);
        due("three", x.lay(1 | 4 | 16, 0), 0x880F);
        due("three, one over", x.lay(2 | 4 | 16, 4), 0x110A);
        due("over that is not in the set", x.lay(2, 4), 0x0008);
        due("shifted over", x.lay(32, 32), 0x0005);
        due("all", x.lay(63, 63), 0x110F);
        due("set 64", x.lay(64, 0), -1);
        due("over 64", x.lay(1, 64), -1);
        due("set below", x.lay(-1, 0), -1);
        due("over below", x.lay(0, Integer.MIN_VALUE), -1);
        due("uses", x.count(3), 0);
        refusalsAre(x, 4, 0, 0, 0, 0, 0);
    }

    private static void project() {
        SlidesOverSlides x = lanternOf(plain(0xFFFF), "s300,##..............;", plain(1), plain(2), plain(4));
        due("none", x.project(0), -3);
        due("five", x.project(31), -3);
        due("not there", x.project(32), -1);
        due("not there goes first", x.project(63), -1);
        due("below", x.project(-1), -1);
        due("heat", x.heat(2), 9);
        due("once", x.project(1), 0xFFFF);
        due("whole", x.slide(0, 2), 0xFFFF);
        due("twice", x.project(1), 0xFFFF);
        due("cracked behind", x.slide(0, 2), 0xFFFB);
        due("uses", x.slide(0, 5), 2);
        due("others are not used", x.slide(1, 5), 0);
        due("others don't crack", x.slide(2, 2), 1);
        due("changed", x.project(3), 0xFFFF);
        due("changed again", x.project(2), 0xFFFC);
        due("a crack on changed", x.slide(1, 3), 0xFFFC);
        due("four", x.project(30), 0xFFFF);
        due("heat", x.heat(1), 2);
        due("the painted cell of changed", x.project(2), 0xFFFC);
        due("painted", x.slide(1, 2), 3);
        due("heat 1 cracks each time", x.slide(1, 5), 4);
        due("all uses", x.count(3), 3 + 4 + 1 + 1 + 1);
        refusalsAre(x, 3, 0, 2, 0, 0, 0);
    }

    private static void projectToTheEnd() {
        SlidesOverSlides x = lanternOf(plain(0xFFFF));
        for (int i = 0; i < 98; i++) x.project(1);
        due("98 uses", x.slide(0, 5), 98);
        // heat 9: 9 18 27 36 45 54 63 72 81 90, modulo 16: 9 2 11 4 13 6 15 8 1 10
        due("painted", x.slide(0, 2), 0x50A9);
        x.project(1);
        due("99 uses", x.slide(0, 5), 99);
        due("99 modulo 16 is 3", x.slide(0, 2), 0x50A1);
        x.heat(4);
        x.project(1);
        due("no more than 99", x.slide(0, 5), 99);
        due("all uses", x.count(3), 99);
        due("painted", x.slide(0, 2), 0x50A1);
        SlidesOverSlides y = lanternOf(plain(0xFFFF));
        y.heat(4);
        for (int i = 0; i < 99; i++) y.project(1);
        int before = y.slide(0, 2);
        due("cell 3 is dark", before >> 3 & 1, 1);
        y.heat(3);
        y.project(1);
        due("99 cracks again at another heat", y.slide(0, 2), before & ~8);
    }

    private static void gaps() {
        SlidesOverSlides x = new SlidesOverSlides();
        int[] pictures = { 0, 0xFFFF, 0x5A5A, 0xFFFE, 0x7FFF, 0x0F0F, 0x9999, 0xFFE7, 0xF6F6, 0x8008, 0xFF6F, 0x2464, 0xE070 };
        int[] clear = { 16, 0, 8, 1, 1, 8, 8, 2, 4, 14, 2, 11, 10 };
        int[] groups = { 1, 0, 8, 1, 1, 2, 1, 2, 4, 1, 2, 2, 1 };
        for (int i = 0; i < pictures.length; i++) {
            due("gaps " + pictures[i], x.gaps(pictures[i], 0), clear[i]);
            due("groups " + pictures[i], x.gaps(pictures[i], 1), groups[i]);
        }
        pictureRefusals("gaps", x.gaps(-1, 2), x.gaps(-1, 1), x.gaps(65536, 0), x.gaps(0, -1));
        refusalsAre(x, 0, 2, 0, 1, 0, 1);
    }

    private static void pictureRefusals(String name, int what, int below, int above, int whatBelow) {
        due(name + " what", what, -2);
        due(name + " below", below, -4);
        due(name + " above", above, -6);
        due(name + " what below", whatBelow, -2);
    }

    private static void nearest() {
        SlidesOverSlides x = new SlidesOverSlides();
        due("none 0", x.nearest(0, 0), -9);
        due("none 1", x.nearest(65535, 1), -9);
        pictureRefusals("nearest", x.nearest(-1, 2), x.nearest(-1, 1), x.nearest(65536, 0), x.nearest(0, -1));
        refusalsAre(x, 0, 2, 0, 1, 0, 1);
        due("lantern", tell(x, want(0xFF00) + want(0x000F) + want(0x0003) + want(0x0003)), 4);
        due("which", x.nearest(0x0003, 0), 2);
        due("unlike", x.nearest(0x0003, 1), 0);
        due("of two alike the first", x.nearest(0x0007, 0), 1);
        due("unlike", x.nearest(0x0007, 1), 1);
        due("far", x.nearest(0xFFFF, 0), 0);
        due("unlike", x.nearest(0xFFFF, 1), 8);
    }

    private static void fewestAre(SlidesOverSlides x, int picture, int size, int set, int over, int ways) {
        due("fewest 0 of " + picture, x.fewest(picture, 0), size);
        due("fewest 1 of " + picture, x.fewest(picture, 1), set);
        due("fewest 2 of " + picture, x.fewest(picture, 2), over);
        due("fewest 3 of " + picture, x.fewest(picture, 3), ways);
    }

    private static void fewest() {
        SlidesOverSlides x = lanternOf(plain(0x0001), plain(0x0008), plain(0x0009), plain(0x0010), plain(0));
        fewestAre(x, 0, 0, 0, 0, 1);
        fewestAre(x, 0x0009, 1, 4, 0, 2);
        fewestAre(x, 0x0008, 1, 1, 1, 2);
        fewestAre(x, 0x0001, 1, 1, 0, 2);
        fewestAre(x, 0x0019, 2, 12, 0, 2);
        fewestAre(x, 0x0080, 1, 8, 8, 1);
        fewestAre(x, 0x0090, -9, -9, -9, -9);
        fewestAre(x, 0xFFFF, -9, -9, -9, -9);
        pictureRefusals("fewest", x.fewest(-1, 4), x.fewest(-1, 3), x.fewest(65536, 0), x.fewest(0, -1));
        refusalsAre(x, 0, 2, 0, 1, 0, 1);
        due("nothing is used", x.count(3), 0);
        SlidesOverSlides y = lanternOf(plain(0x0001), plain(0x0010), plain(0x0100), plain(0x1000), plain(0x0001),
            plain(0x0010), plain(0x0100), plain(0x1000));
        fewestAre(y, 0x9999, 8, 255, 15, 16);
        fewestAre(y, 0x1111, 4, 15, 0, 16);
        // The least set is not the one that straight slides alone find first.
        SlidesOverSlides z = lanternOf(plain(0x0008), plain(0x0001), plain(0x0010));
        fewestAre(z, 0x0011, 2, 5, 1, 2);
    }

    private static void cheapest() {
        SlidesOverSlides x = lanternOf(priced(50, 0x0009), priced(20, 0x0001), priced(25, 0x0008), priced(3, 0x8000));
        due("blank", x.cheapest(0), 0);
        due("two are cheaper than one", x.cheapest(0x0009), 45);
        due("turned over", x.cheapest(0x0008), 20);
        due("turned over", x.cheapest(0x1000), 3);
        due("none", x.cheapest(0x9000), -9);
        due("three", x.cheapest(0x8009), 48);
        due("price", x.price(2, 35), 25);
        due("one is cheaper than two", x.cheapest(0x0009), 50);
        due("below", x.cheapest(-1), -4);
        due("above", x.cheapest(65536), -6);
        refusalsAre(x, 0, 0, 0, 1, 0, 1);
        String[] dear = new String[8];
        for (int i = 0; i < 8; i++) dear[i] = priced(99, 1 << 4 * (i % 4));
        due("all prices", lanternOf(dear).cheapest(0x9999), 792);
        due("price 0", lanternOf(priced(0, 1)).cheapest(1), 0);
    }

    private static void near() {
        SlidesOverSlides x = new SlidesOverSlides();
        due("without slides", x.near(0x00FF), 8);
        due("all cells", x.near(0xFFFF), 16);
        due("lantern", tell(x, plain(0x000F) + plain(0x0013)), 2);
        due("blank", x.near(0), 0);
        due("just that", x.near(0x000F), 0);
        due("turned over", x.near(0x008C), 0);
        due("both", x.near(0x001F), 0);
        due("one cell lacks", x.near(0x100F), 1);
        due("one cell too many", x.near(0x0003), 1);
        due("empty is nearest", x.near(0x8000), 1);
        due("all dark", x.near(0xFFFF), 11);
        due("below", x.near(-1), -4);
        due("above", x.near(65536), -6);
        refusalsAre(x, 0, 0, 0, 1, 0, 1);
    }

    private static SlidesOverSlides someWanted() {
        SlidesOverSlides x = lanternOf(plain(0x0001), plain(0x0010), plain(0x0011));
        due("lantern", tell(x, want(0x0009) + want(0x0011) + want(0x0018) + want(0)), 4);
        due("lantern", tell(x, want(0x0099) + want(0x8000)), 2);
        return x;
    }

    private static void can() {
        SlidesOverSlides x = someWanted();
        // 0x0009 never: slides 0 and 2 alone have row 0, and slide 2 darkens row 1 too.
        due("can", x.can(-1), 2 | 4 | 8 | 16);
        due("without 0", x.can(0), 2 | 8);
        due("without 1", x.can(1), 2 | 8);
        due("without 2", x.can(2), 2 | 4 | 8);
        due("can 3", x.can(3), -1);
        due("can -2", x.can(-2), -1);
        due("can least", x.can(Integer.MIN_VALUE), -1);
        refusalsAre(x, 3, 0, 0, 0, 0, 0);
        due("none wanted", lanternOf(plain(1)).can(0), 0);
    }

    private static void worth() {
        SlidesOverSlides x = someWanted();
        due("worth 0", x.worth(0), 2);
        due("worth 1", x.worth(1), 2);
        due("worth 2", x.worth(2), 1);
        due("worth 3", x.worth(3), -1);
        due("worth -1", x.worth(-1), -1);
        refusalsAre(x, 2, 0, 0, 0, 0, 0);
    }

    private static void sure() {
        SlidesOverSlides x = lanternOf(plain(0x0007), plain(0x0011));
        due("dark", x.sure(3, 0x011F, 0), 0x0108);
        due("clear", x.sure(3, 0x011F, 1), 0xFEE0);
        due("ways", x.sure(3, 0x011F, 2), 16);
        due("just the known", x.sure(1, 0x0007, 0), 0);
        due("ways", x.sure(1, 0x0007, 2), 8);
        for (int what = 0; what <= 2; what++) due("can't be", x.sure(2, 0x0007, what), -9);
        due("no known", x.sure(0, 0xFFFF, 0), 0xFFFF);
        due("no known", x.sure(0, 0xFFFF, 1), 0);
        due("set", x.sure(4, -1, 3), -1);
        due("set below", x.sure(-1, 0, 0), -1);
        pictureRefusals("sure", x.sure(3, -1, 3), x.sure(3, -1, 2), x.sure(3, 65536, 0), x.sure(2, 7, -1));
        refusalsAre(x, 2, 2, 0, 1, 0, 1);
        due("all free", lanternOf(plain(0xFFFF)).sure(1, 0xFFFF, 2), 65536);
    }

    private static void who() {
        SlidesOverSlides x = lanternOf(plain(0x0003), plain(0x0006), "s300,.###############;");
        due("slide 0", x.who(3, 0x0006, 0), 1);
        due("ways", x.who(3, 0x0006, 1), 1);
        due("slide 1", x.who(3, 0x0003, 0), 2);
        due("a cell that both have", x.who(3, 0x0005, 0), 0);
        due("ways", x.who(3, 0x0005, 1), 0);
        due("what it shows", x.who(3, 0x0007, 0), 0);
        due("two cells", x.who(3, 0x0004, 1), 0);
        due("a cell more", x.who(3, 0x000F, 0), 0);
        due("what is on it counts", x.who(4, 0, 0), 4);
        due("ways", x.who(4, 0, 1), 1);
        due("slide 1 alone", x.who(2, 0x0002, 0), 2);
        due("set", x.who(8, -1, 2), -1);
        due("set below", x.who(-1, 0, 0), -1);
        pictureRefusals("who", x.who(3, -1, 2), x.who(3, -1, 1), x.who(3, 65536, 0), x.who(3, 7, -1));
        refusalsAre(x, 2, 2, 0, 1, 0, 1);
    }

    private static void dust() {
        SlidesOverSlides x = lanternOf(plain(0xFFFC), plain(0x0001), plain(0x0002));
        long[] above = { 1, 81, 16, 49, 9, 1, 4, 9, 1, 1 };
        long[] below = { 1, 100, 25, 100, 25, 4, 25, 100, 25, 100 };
        for (int d = 0; d <= 9; d++) {
            due("above " + d, x.dust(1, d, 0), above[d]);
            due("below " + d, x.dust(1, d, 1), below[d]);
            due("no gap, above " + d, x.dust(7, d, 0), 1);
            due("no gap, below " + d, x.dust(7, d, 1), 1);
        }
        due("least", x.dust(0, 9, 1), 10000000000000000L);
        due("nine tenths above", x.dust(0, 1, 0), 1853020188851841L);
        due("nine tenths below", x.dust(0, 1, 1), 10000000000000000L);
        due("three fifths above", x.dust(0, 4, 0), 43046721L);
        due("three fifths below", x.dust(0, 4, 1), 152587890625L);
        due("set", x.dust(8, -1, 2), 4000000000000000001L);
        due("set below", x.dust(-1, 0, 0), 4000000000000000001L);
        due("part", x.dust(7, -1, 2), 4000000000000000002L);
        due("part below", x.dust(7, 0, -1), 4000000000000000002L);
        due("below", x.dust(7, -1, 1), 4000000000000000004L);
        due("above", x.dust(7, 10, 1), 4000000000000000006L);
        refusalsAre(x, 2, 2, 0, 1, 0, 1);
    }

    private static void round() {
        SlidesOverSlides x = lanternOf(plain(0x0001), plain(0x0010), plain(0x0100), plain(0x0111));
        due("none wanted", x.round(), -9);
        due("lantern", tell(x, want(0x0008)), 1);
        due("turned over does not count", x.round(), -9);
        due("lantern", tell(x, want(0x0111)), 1);
        due("one, by the smallest set", x.round(), 1);
        due("lantern", tell(x, want(0x0011)), 1);
        // 0x0011 by 0 and 1 costs 2; then 2 or 3 costs 1.
        due("two", x.round(), 3);
        due("lantern", tell(x, want(0x0110)), 1);
        // 0 and 1 (2), 2 more (1), without 0 (1).
        due("three", x.round(), 4);
        due("lantern", tell(x, want(0)), 1);
        due("four, the empty set among them", x.round(), 4);
        due("lantern", tell(x, want(0x0111)), 1);
        due("five", x.round(), -9);
        SlidesOverSlides y = lanternOf(plain(0x0001), plain(0x0010));
        due("lantern", tell(y, want(0x0001) + want(0x0010) + want(0x0001)), 3);
        due("one twice", y.round(), 3);
        SlidesOverSlides z = lanternOf(want(0));
        due("blank without slides", z.round(), 0);
        due("nothing is used", x.count(3), 0);
    }

    private static void row() {
        SlidesOverSlides x = new SlidesOverSlides();
        due("below", x.row(-1), -4);
        due("above", x.row(256), -6);
        for (int i = 1; i <= 12; i++) due("row", x.row(i == 1 ? 255 : 0), i);
        due("13th", x.row(1), -6);
        due("13th below", x.row(-1), -4);
        due("count 6", x.count(6), 12);
        due("not there", x.judge(), 0);
        due("count 6", x.count(6), 0);
        refusalsAre(x, 0, 0, 0, 2, 0, 2);
    }

    private static void judge() {
        SlidesOverSlides x = lanternOf(plain(0x0003), plain(0x0030), plain(0), plain(0), plain(0));
        due("lantern", tell(x, want(0x0003) + want(0x0033) + want(0) + "h2;"), 4);
        judged(x, -9);
        judged(x, -9, 1, 3, 4);
        judged(x, 1, 1, 2);
        judged(x, 0, 0);
        judged(x, 0, 31);
        judged(x, 1, 27, 32);
        judged(x, 0, 128);
        // Behind two uses cell 2 cracks, which is clear on slide 0: all go on.
        judged(x, -9, 1, 1, 1, 1, 1, 1, 1, 1, 1, 1, 1, 1);
        due("heat", x.heat(1), 2);
        // Behind the first use cell 1 of slide 0 is clear.
        judged(x, 1, 1, 1);
        judged(x, -9, 1);
        due("nothing is used", x.count(3), 0);
        due("nothing cracked", x.slide(0, 2), 3);
        refusalsAre(x, 0, 0, 0, 0, 0, 0);
    }

    private static void judged(SlidesOverSlides x, int place, int... sets) {
        for (int i = 0; i < sets.length; i++) due("row", x.row(sets[i]), i + 1);
        due("judge", x.judge(), place);
        due("row is empty", x.count(6), 0);
    }

    private static void seeds() {
        SlidesOverSlides x = new SlidesOverSlides();
        due("below goes first", x.seeds(0, 1), -4);
        due("above goes first", x.seeds(41, 1), -6);
        due("no slides", x.seeds(1, 1), -3);
        refusalsAre(x, 0, 0, 1, 1, 0, 1);
        due("lantern", tell(x, plain(0xFFFF)), 1);
        // Heat 9: behind the 9th, 18th, 27th and 36th show a cell less.
        due("40 shows", x.seeds(40, 5), 9 * 16 + 9 * 15 + 9 * 14 + 9 * 13 + 4 * 12);
        due("nothing is used", x.count(3), 0);
        due("nothing cracked", x.slide(0, 2), 0xFFFF);
        due("lantern", tell(x, plain(0x0001) + plain(0x0006)), 2);
        // Below three, z 1 draws 2 1, 0 1, 1 2; z -1 draws 2 2, 1 0, 1 2; the least int draws 0 0.
        due("two", x.seeds(1, 1), 3);
        due("two shows", x.seeds(2, 1), 3 + 16);
        due("three shows", x.seeds(3, 1), 3 + 16 + 3);
        due("one alone", x.seeds(1, -1), 2);
        due("three shows", x.seeds(3, -1), 2 + 16 + 3);
        due("the least seed", x.seeds(1, Integer.MIN_VALUE), 16);
        due("heat", x.heat(1), 9);
        // Behind its first use cell 1 of slide 2 is clear.
        due("cracked in mind", x.seeds(3, -1), 2 + 16 + 2);
        due("nothing cracked", x.slide(2, 2), 6);
        due("nothing is used", x.count(3), 0);
    }

    private static void image() {
        SlidesOverSlides x = lanternOf(plain(0xFFFF), want(5));
        due("image", x.image(), 1);
        x.heat(1);
        x.price(0, 50);
        due("project", x.project(1), 0xFFFF);
        due("lantern", tell(x, plain(2) + want(6)), 2);
        due("feed", x.feed('h'), 1);
        due("row", x.row(3), 1);
        due("refused", x.slide(9, 0), -1);
        due("restore", x.restore(), 1);
        due("slides", x.count(0), 1);
        due("wanted", x.count(1), 1);
        due("wanted", x.wanted(1), -1);
        due("heat", x.count(2), 9);
        due("uses", x.slide(0, 5), 0);
        due("painted", x.slide(0, 2), 0xFFFF);
        due("price", x.slide(0, 4), 1);
        due("letters stay", x.count(5), 1);
        due("the row stays", x.count(6), 1);
        refusalsAre(x, 2, 0, 0, 0, 0, 0);
        x.heat(1);
        x.project(1);
        due("restored again", x.restore(), 1);
        due("painted", x.slide(0, 2), 0xFFFF);
        x.project(1);
        due("a newer image", x.image(), 1);
        x.project(1);
        due("restored", x.restore(), 1);
        due("uses", x.count(3), 1);
        SlidesOverSlides y = lanternOf(plain(1), plain(2));
        due("none", y.restore(), -3);
        refusalsAre(y, 0, 0, 1, 0, 0, 0);
        SlidesOverSlides z = new SlidesOverSlides();
        due("an image of nothing", z.image(), 0);
        due("lantern", tell(z, plain(1)), 1);
        due("nothing again", z.restore(), 0);
        due("slides", z.count(0), 0);
    }

    private static void count() {
        SlidesOverSlides x = lanternOf(KINDS);
        due("lantern", tell(x, want(1) + "h4;"), 2);
        x.project(3);
        x.project(1);
        x.feed('x');
        x.row(0);
        x.row(1);
        int[] counts = { 6, 1, 4, 3, 77, 1, 2 };
        for (int what = 0; what <= 6; what++) due("count " + what, x.count(what), counts[what]);
        for (int what : new int[] { -1, 7, 8, 9, 10, 17, Integer.MIN_VALUE, Integer.MAX_VALUE }) {
            due("count " + what, x.count(what), -9);
        }
        refusalsAre(x, 0, 0, 0, 0, 0, 0);
    }

    private static void runOne(int promise) {
        about("promise " + promise);
        switch (promise) {
            case 1: aNewObject(); break;
            case 2: feed(); break;
            case 3: lanternForm(); lanternRange(); lanternRoom(); break;
            case 4: slide(); kinds(); break;
            case 5: wanted(); break;
            case 6: heat(); break;
            case 7: price(); break;
            case 8: lay(); break;
            case 9: project(); projectToTheEnd(); break;
            case 10: gaps(); break;
            case 11: nearest(); break;
            case 12: fewest(); break;
            case 13: cheapest(); break;
            case 14: near(); break;
            case 15: can(); break;
            case 16: worth(); break;
            case 17: sure(); break;
            case 18: who(); break;
            case 19: dust(); break;
            case 20: round(); break;
            case 21: row(); break;
            case 22: judge(); break;
            case 23: seeds(); break;
            case 24: case 25: image(); break;
            default: count(); break;
        }
    }

    public static void main(String[] args) {
        for (int promise = 1; promise <= 26; promise++) runOne(promise);
        end();
    }
}
