import java.lang.reflect.Method;
import java.lang.reflect.Modifier;
import java.nio.file.Files;
import java.nio.file.Path;
import java.util.Arrays;
import java.util.Set;
import java.util.TreeSet;
import java.util.regex.Matcher;
import java.util.regex.Pattern;

/**
 * The document from its first line to its last. Each sentence is quoted before it is asked for; the test fails, too, if
 * the document has one that is not quoted here, or no longer says what is quoted.
 */
public final class DocumentTest extends Checks {
    private static final Path DOCUMENT = Path.of("../shared/DOC.md");
    private static final int ALL = 65535;
    /** One picture that is unlike itself however it is turned. */
    private static final int FLAG = drawn("##..", "#...", ".#..", "...#");

    /** Five slides of five kinds; each question about them is held against all that LAYING them shows. */
    private static final String[] FIVE = { priced(9, 0x0001), slideOf(1, 0, 4, 0x0003), slideOf(2, 0, 7, 0x8000),
        slideOf(5, 3, 2, 0x0012), slideOf(4, 4, 8, 0x1090) };
    private static final int[] FIVE_PRICES = { 9, 4, 7, 2, 8 };
    private static final int[] FIVE_ON = { 0x0001, 0x000C, 0x0001, 0x0081, 0x1080 };
    private static final int SETS = 1 << FIVE.length;

    /** What the document says and has not been quoted yet. */
    private static String unquoted = "";
    /** Where the document does not stand beside the project, its words can't be compared; all is asked for even so. */
    private static final boolean isHere = Files.isReadable(DOCUMENT);

    // ---- the document itself ----

    private static String withOneBlank(String text) {
        return text.replaceAll("\\s+", " ").trim();
    }

    /** The document's sentences without headings, the signs round them, and the face. */
    private static String sentencesOf(String document) {
        String without = document.replaceAll("(?s)```java.*?```", " ").replaceAll("```(text)?", " ");
        return withOneBlank(without.replaceAll("(?m)^#.*$", " "));
    }

    private static void sentence(String words) {
        about(words);
        if (!isHere) return;
        String quoted = withOneBlank(words);
        int at = unquoted.indexOf(quoted);
        due("where it stands behind the sentence before", at, 0);
        if (at >= 0) unquoted = unquoted.substring(at + quoted.length()).trim();
    }

    private static void theFace(String document) {
        about("The public face");
        Matcher block = Pattern.compile("(?s)```java(.*?)```").matcher(document);
        due("stands in the document", block.find() ? 1 : 0, 1);
        Set<String> told = new TreeSet<>();
        Matcher line = Pattern.compile("public (int|long) (\\w+)\\((.*?)\\);").matcher(block.group(1));
        while (line.find()) {
            int parts = line.group(3).split("int ", -1).length;
            told.add(line.group(1) + " " + line.group(2) + " " + (parts - 1));
        }
        Set<String> there = new TreeSet<>();
        for (Method m : SlidesOverSlides.class.getDeclaredMethods()) {
            if (!Modifier.isPublic(m.getModifiers())) continue;
            there.add(m.getReturnType() + " " + m.getName() + " " + m.getParameterCount());
        }
        due("how many methods", told.size(), 25);
        due("the same: " + told + " " + there, told.equals(there) ? 1 : 0, 1);
    }

    // ---- pictures as they look ----

    /** A picture of four rows, the uppermost first. */
    private static int drawn(String... rows) {
        int picture = 0;
        for (int y = 0; y < 4; y++) {
            for (int x = 0; x < 4; x++) if (rows[y].charAt(x) == '#') picture += 1 << 4 * y + x;
        }
        return picture;
    }

    private static boolean isDark(int picture, int x, int y) {
        return (picture >> 4 * y + x & 1) == 1;
    }

    private static int cell(int x, int y) {
        return 1 << 4 * y + x;
    }

    private static int turnedOver(int picture) {
        int turned = 0;
        for (int y = 0; y < 4; y++) {
            for (int x = 0; x < 4; x++) if (isDark(picture, x, y)) turned += cell(3 - x, y);
        }
        return turned;
    }

    // ---- What it is ----

    private static void whatItIs() {
        sentence("Slides laid over one another: a lantern with slides of four by four cells, glass here and soot there,"
            + " of kinds that turn, change, crack, shift what is on them; several laid in at once, turned over or not,"
            + " show a picture; heat that cracks, pictures that are wanted, the nearest of them, the fewest slides that"
            + " show one, in how many ways, the cheapest, how near one comes, gaps, what is lost with a slide, what it"
            + " is worth, what must be on a slide that nobody has seen, which one cracked, dust by chance, shows one"
            + " behind the other with fewest changed, told shows looked at, shows by seeds, lanterns told in letters,"
            + " an image. ==== I.");
        sentence("An object is used for at most 512 calls after it has been made; what later calls answer is free.");
        SlidesOverSlides x = new SlidesOverSlides();
        for (int i = 1; i <= 511; i++) due("call " + i, x.wanted(i), -1);
        due("call 512", x.count(11), 511);
        SlidesOverSlides y = lanternOf(plain(ALL));
        // 22 letters and lantern() so far.
        for (int i = 24; i <= 510; i++) y.project(1);
        due("call 511", y.slide(0, 5), 99);
        due("call 512", y.count(3), 99);
    }

    // ---- Terms ----

    private static void termsOfPictures() {
        sentence("A PICTURE has 16 CELLS (CELL 4 y and x in row y, at place x), DARK or CLEAR, told as bits"
            + " (DARK 1; 0 .. 65535).");
        for (int y = 0; y < 4; y++) {
            SlidesOverSlides one = new SlidesOverSlides();
            for (int x = 0; x < 4; x++) {
                String cells = BLANK.substring(0, 4 * y + x) + "#" + BLANK.substring(4 * y + x + 1);
                due("lantern", tell(one, "s000," + cells + ";w" + cells + ";"), 2);
                due("painted", one.slide(x, 2), (int) Math.pow(2, 4 * y + x));
                due("wanted", one.wanted(x), (int) Math.pow(2, 4 * y + x));
            }
        }
        SlidesOverSlides ends = lanternOf("s000," + BLANK + ";", "s000," + BLANK.replace('.', '#') + ";");
        due("all clear", ends.slide(0, 2), 0);
        due("all dark", ends.slide(1, 2), 65535);
    }

    private static void termsOfSlides() {
        sentence("SLIDES 0 .. 7 as they come, of KINDS: 0 SLIDE; 1 TURNED under SLIDE; 2 OVER under TURNED; 3 CHANGED"
            + " under SLIDE; 4 CRACKED under SLIDE; 5 SHIFTED under CRACKED: with a FIGURE (0 .. 9), a PICTURE that was"
            + " painted, a PRICE (0 .. 99), USES (0 at first).");
        int[] prices = { 0, 1, 9, 10, 50, 98, 99, 7 };
        for (int first = 0; first < 10; first++) {
            SlidesOverSlides x = new SlidesOverSlides();
            for (int i = 0; i < 8; i++) {
                String told = slideOf((first + i) % 6, (first + i) % 10, prices[i], first * 4099 + i);
                due("lantern " + told, tell(x, told), 1);
                due("SLIDES", x.count(0), i + 1);
            }
            for (int i = 0; i < 8; i++) {
                due("KIND", x.slide(i, 0), (first + i) % 6);
                due("FIGURE", x.slide(i, 1), (first + i) % 10);
                due("painted", x.slide(i, 2), first * 4099 + i);
                due("PRICE", x.slide(i, 4), prices[i]);
                due("USES", x.slide(i, 5), 0);
            }
        }
    }

    private static void onIs(int kind, int figure, int on) {
        SlidesOverSlides x = lanternOf(slideOf(kind, figure, 0, FLAG));
        due("on kind " + kind + ", figure " + figure, x.slide(0, 3), on);
        due("painted all the same", x.slide(0, 2), FLAG);
        due("what it shows", x.lay(1, 0), on);
    }

    private static void whatIsOn() {
        sentence("What is ON one: SLIDE: what was painted.");
        for (int figure = 0; figure <= 9; figure++) onIs(0, figure, FLAG);
        sentence("TURNED: what is on a SLIDE, each row from the right to the left.");
        for (int figure = 0; figure <= 9; figure++) onIs(1, figure, drawn("..##", "...#", "..#.", "#..."));
        sentence("OVER: what is on a TURNED, rows from the lowest to the uppermost.");
        for (int figure = 0; figure <= 9; figure++) onIs(2, figure, drawn("#...", "..#.", "...#", "..##"));
        sentence("CHANGED: DARK where a SLIDE is CLEAR.");
        for (int figure = 0; figure <= 9; figure++) onIs(3, figure, drawn("..##", ".###", "#.##", "###."));
        sentence("CRACKED: what is on a SLIDE, but CELL FIGURE CLEAR.");
        onIs(4, 0, drawn(".#..", "#...", ".#..", "...#"));
        onIs(4, 1, drawn("#...", "#...", ".#..", "...#"));
        onIs(4, 4, drawn("##..", "....", ".#..", "...#"));
        onIs(4, 9, drawn("##..", "#...", "....", "...#"));
        for (int figure : new int[] { 2, 3, 5, 6, 7, 8 }) onIs(4, figure, FLAG);
        sentence("SHIFTED: what is on a CRACKED, each row shifted FIGURE modulo 4 places to the right, round.");
        onIs(5, 0, drawn(".#..", "#...", ".#..", "...#"));
        onIs(5, 1, drawn(".#..", ".#..", "..#.", "#..."));
        onIs(5, 2, drawn("..##", "..#.", "...#", ".#.."));
        onIs(5, 3, drawn("#..#", "...#", "#...", "..#."));
        onIs(5, 4, drawn("##..", "....", ".#..", "...#"));
        onIs(5, 5, drawn(".##.", ".#..", "..#.", "#..."));
        onIs(5, 6, drawn("..##", "..#.", "...#", ".#.."));
        onIs(5, 7, drawn("#..#", "...#", "#...", "..#."));
        onIs(5, 8, FLAG);
        onIs(5, 9, drawn(".##.", ".#..", "....", "#..."));
        eachCellAlone();
    }

    /** Where a cell comes to by a kind and figure; -1 if it cracks. */
    private static int placeOf(int kind, int figure, int x, int y) {
        if (kind >= 4 && 4 * y + x == figure) return -1;
        int toX = kind == 1 || kind == 2 ? 3 - x : kind == 5 ? (x + figure) % 4 : x;
        return 4 * (kind == 2 ? 3 - y : y) + toX;
    }

    private static void eachCellAlone() {
        for (int kind = 0; kind <= 5; kind++) {
            for (int n = 0; n < 160; n += 8) {
                SlidesOverSlides x = new SlidesOverSlides();
                for (int i = 0; i < 8; i++) {
                    int figure = (n + i) / 16;
                    int c = (n + i) % 16;
                    due("lantern", tell(x, slideOf(kind, figure, 0, 1 << c)), 1);
                    int to = placeOf(kind, figure, c % 4, c / 4);
                    int on = to < 0 ? 0 : 1 << to;
                    String told = "kind " + kind + ", figure " + figure + ", cell " + c;
                    due(told, x.slide(i, 3), kind == 3 ? ALL - on : on);
                }
            }
        }
    }

    private static void termsOfLaying() {
        sentence("LAYING a set of SLIDES (bits), of which some are turned over (bits; each row from the right to the"
            + " left, behind all else): a CELL is DARK, if it is so on one of them.");
        SlidesOverSlides behind = lanternOf(slideOf(5, 1, 0, FLAG), slideOf(4, 0, 0, FLAG), slideOf(1, 0, 0, FLAG));
        due("shifted, then turned over", behind.lay(1, 1), drawn("..#.", "..#.", ".#..", "...#"));
        due("cracked, then turned over", behind.lay(2, 2), drawn("..#.", "...#", "..#.", "#..."));
        due("turned twice", behind.lay(4, 4), FLAG);
        SlidesOverSlides x = lanternOf(plain(drawn("#...", "....", "....", "....")),
            plain(drawn("....", ".#..", "....", "....")), plain(drawn("#...", "....", "#.#.", "....")));
        due("none", x.lay(0, 0), 0);
        due("0 and 1", x.lay(3, 0), drawn("#...", ".#..", "....", "...."));
        due("0 and 1, 1 over", x.lay(3, 2), drawn("#...", "..#.", "....", "...."));
        due("0 and 2: dark on both, dark on one", x.lay(5, 0), drawn("#...", "....", "#.#.", "...."));
        due("0 and 2, 0 over", x.lay(5, 1), drawn("#..#", "....", "#.#.", "...."));
        due("all", x.lay(7, 0), drawn("#...", ".#..", "#.#.", "...."));
        due("all over", x.lay(7, 7), drawn("...#", "..#.", ".#.#", "...."));
        eachSetOfFive();
        sentence("WANTED PICTURES 0 .. 5 as they come.");
        SlidesOverSlides y = new SlidesOverSlides();
        for (int i = 0; i < 6; i++) due("lantern", tell(y, want(1000 * i + 1)), 1);
        for (int i = 0; i < 6; i++) due("wanted", y.wanted(i), 1000 * i + 1);
        sentence("HEAT (1 .. 9; 9 at first).");
        SlidesOverSlides z = new SlidesOverSlides();
        due("at first", z.count(2), 9);
        for (int v = 1; v <= 9; v++) {
            due("lantern", tell(z, "h" + v + ";"), 1);
            due("HEAT", z.count(2), v);
        }
    }

    private static void eachSetOfFive() {
        SlidesOverSlides x = lanternOf(FIVE);
        for (int set = 0; set < SETS; set++) {
            for (int over = 0; over <= set; over++) {
                if ((over & ~set) != 0) continue;
                int dark = 0;
                for (int i = 0; i < FIVE.length; i++) {
                    if ((set >> i & 1) == 1) dark |= (over >> i & 1) == 1 ? turnedOver(FIVE_ON[i]) : FIVE_ON[i];
                }
                due("lay(" + set + ", " + over + ")", x.lay(set, over), dark);
            }
        }
    }

    private static void termsOfProjecting() {
        sentence("To PROJECT a set of SLIDES (4 at most, 1 at least): they show what LAYING them shows; USES of each is"
            + " 1 more (99 at most); behind that those whose USES can be divided by HEAT crack: the painted CELL (USES"
            + " modulo 16) is CLEAR then.");
        for (int heat = 1; heat <= 9; heat++) {
            SlidesOverSlides x = lanternOf(plain(ALL), plain(ALL));
            x.heat(heat);
            int painted = ALL;
            for (int uses = 1; uses <= 101; uses++) {
                due("they show what was on them before", x.project(1), painted);
                int now = Math.min(uses, 99);
                if (now % heat == 0) painted &= ~(1 << now % 16);
                due("heat " + heat + ", use " + uses + ", painted", x.slide(0, 2), painted);
                due("USES", x.slide(0, 5), now);
            }
            due("the other", x.slide(1, 2), ALL);
            due("the other", x.slide(1, 5), 0);
        }
        for (int set = 1; set < 64; set++) {
            SlidesOverSlides y = lanternOf(plain(1), slideOf(1, 0, 0, 1), slideOf(2, 0, 0, 2), slideOf(3, 0, 0, 0xFFF3),
                slideOf(4, 1, 0, 0x0302), slideOf(5, 2, 0, 0x4004));
            boolean isFour = Integer.bitCount(set) <= 4;
            due("set " + set, y.project(set), isFour ? y.lay(set, 0) : -3);
            for (int i = 0; i < 6; i++) due("USES", y.slide(i, 5), isFour ? set >> i & 1 : 0);
        }
    }

    private static void termsOfLanterns() {
        sentence("A LANTERN is told in letters, one by one (80 at most): STATEMENTS, each with \";\" behind: \"s\" KIND,"
            + " FIGURE (a digit each), PRICE (1 or 2 digits), \",\", 16 of \".\" (CLEAR) and \"#\" (DARK): a SLIDE more;"
            + " \"w\" 16 of these: a WANTED PICTURE more; \"h\" HEAT (a digit).");
        SlidesOverSlides x = new SlidesOverSlides();
        due("a slide, a price of one digit", tell(x, "s527,#..............#;"), 1);
        due("KIND", x.slide(0, 0), 5);
        due("FIGURE", x.slide(0, 1), 2);
        due("PRICE", x.slide(0, 4), 7);
        due("painted", x.slide(0, 2), 0x8001);
        due("two digits", tell(x, "s3107,.##.............;"), 1);
        due("PRICE", x.slide(1, 4), 7);
        due("FIGURE", x.slide(1, 1), 1);
        due("a wanted picture", tell(x, "w...#............;"), 1);
        due("wanted", x.wanted(0), 8);
        due("heat", tell(x, "h4;"), 1);
        due("HEAT", x.count(2), 4);
        due("several", tell(x, "h2;w" + BLANK + ";s000," + BLANK + ";h6;s0099," + BLANK + ";"), 5);
        due("SLIDES", x.count(0), 4);
        due("WANTED", x.count(1), 2);
        due("HEAT, the last", x.count(2), 6);
        StringBuilder full = new StringBuilder("s007," + BLANK + ";s0010," + BLANK + ";s007," + BLANK + ";");
        for (int i = 0; i < 4; i++) full.append("h7;");
        due("letters", full.length(), 79);
        due("79 letters", tell(x, full.toString()), 7);
        due("80 letters", tell(new SlidesOverSlides(), "s0010," + BLANK + ";" + full.substring(22)), 7);
        sentence("At least one STATEMENT.");
        due("none", new SlidesOverSlides().lantern(), -1000);
    }

    private static void faultIs(int fault, String letters) {
        SlidesOverSlides x = lanternOf(plain(3), want(5), "h4;");
        due("lantern " + letters, tell(x, letters), fault);
        int[] counts = { 1, 1, 4, 0, 1, 0, 0 };
        for (int what = 0; what <= 6; what++) due("count " + what + " behind it", x.count(what), counts[what]);
        due("painted", x.slide(0, 2), 3);
        due("wanted", x.wanted(0), 5);
    }

    private static void termsOfFaults() {
        sentence("FAULT: kind 1 the place of the first letter with which no LANTERN can go on (the end, if something"
            + " lacks): -1000 less the place; else kind 2 the place of the first letter of the first STATEMENT that is"
            + " not as it must be (a number out of range, no room): -2000 less the place.");
        String[] whole = { "s0010,################;", "s231," + BLANK + ";", "w#.#.#.#.#.#.#.#.;", "h7;" };
        for (String statement : whole) {
            for (int n = 0; n < statement.length(); n++) faultIs(-1000 - n, statement.substring(0, n));
            for (int n = 0; n < statement.length(); n++) {
                faultIs(-1000 - n, statement.substring(0, n) + "*" + statement.substring(n + 1));
            }
            faultIs(-1003 - statement.length(), "h1;" + statement + "*");
        }
        faultIs(-1005, "s00123," + BLANK + ";");
        faultIs(-1003, "s00," + BLANK + ";");
        faultIs(-1022, "s0010," + BLANK + "." + ";");
        faultIs(-2000, "s600," + BLANK + ";");
        faultIs(-2000, "s999," + BLANK + ";");
        faultIs(-2000, "h0;");
        faultIs(-2003, "h1;h0;h0;");
        faultIs(-2018, want(7) + "h0;s700," + BLANK + ";");
        faultIs(-1007, "h0;h0;h");
        faultIs(-1003, "h0;*");
        roomFaults();
        sentence("Without FAULT all of it comes, with one nothing.");
        faultIs(-2043, plain(1) + want(2) + "h8;h0;");
        SlidesOverSlides x = new SlidesOverSlides();
        due("lantern", tell(x, plain(1) + want(2) + "h8;"), 3);
        due("SLIDES", x.count(0), 1);
        due("WANTED", x.count(1), 1);
        due("HEAT", x.count(2), 8);
    }

    private static void roomFaults() {
        SlidesOverSlides x = new SlidesOverSlides();
        for (int i = 0; i < 7; i++) due("lantern", tell(x, plain(i)), 1);
        for (int i = 0; i < 5; i++) due("lantern", tell(x, want(i)), 1);
        due("the ninth", tell(x, "h2;" + plain(7) + plain(8)), -2025);
        due("the seventh", tell(x, want(7) + "h2;" + want(8)), -2021);
        due("SLIDES", x.count(0), 7);
        due("WANTED", x.count(1), 5);
        due("the eighth, the sixth", tell(x, plain(7) + want(5)), 2);
        due("no room", tell(x, plain(8)), -2000);
        due("no room", tell(x, "h2;" + want(8)), -2003);
        due("HEAT", x.count(2), 9);
        due("heat needs none", tell(x, "h2;"), 1);
    }

    // ---- II. In mind ----

    private static void gapsAre(int clear, int groups, String... rows) {
        SlidesOverSlides x = new SlidesOverSlides();
        due("CLEAR", x.gaps(drawn(rows), 0), clear);
        due("groups", x.gaps(drawn(rows), 1), groups);
    }

    private static void mindOfPictures() {
        sentence("==== II. In mind (nothing is used): LAYING as told.");
        SlidesOverSlides x = lanternOf(plain(ALL), want(ALL));
        x.heat(1);
        x.lay(1, 0);
        x.fewest(ALL, 0);
        x.cheapest(ALL);
        x.near(ALL);
        x.can(0);
        x.worth(0);
        x.sure(1, ALL, 0);
        x.who(1, ALL, 0);
        x.dust(1, 1, 1);
        x.round();
        x.row(1);
        due("judge", x.judge(), -9);
        due("seeds", x.seeds(3, 1), 16 + 15 + 14);
        due("USES", x.count(3), 0);
        due("painted", x.slide(0, 2), ALL);
        sentence("GAPS: how many CELLS are CLEAR in a PICTURE; into how many groups they fall (side by side, above one"
            + " another).");
        gapsAre(16, 1, "....", "....", "....", "....");
        gapsAre(0, 0, "####", "####", "####", "####");
        gapsAre(8, 8, "#.#.", ".#.#", "#.#.", ".#.#");
        gapsAre(2, 2, ".###", "#.##", "####", "####");
        gapsAre(2, 1, "..##", "####", "####", "####");
        gapsAre(2, 1, ".###", ".###", "####", "####");
        gapsAre(2, 2, ".##.", "####", "####", "####");
        gapsAre(2, 2, "###.", ".###", "####", "####");
        gapsAre(2, 2, ".###", "####", "####", ".###");
        gapsAre(12, 1, "....", ".##.", ".##.", "....");
        gapsAre(10, 2, "...#", ".##.", ".##.", "#...");
        gapsAre(10, 1, "....", "###.", "....", ".###");
        gapsAre(8, 4, ".#.#", ".#.#", "#.#.", "#.#.");
        gapsAre(5, 1, ".#.#", "...#", "####", "####");
        gapsAre(7, 1, "####", "#..#", "#.##", "....");
        gapsAre(6, 1, "##.#", "#..#", "..##", ".###");
    }

    private static void mindOfNearest() {
        sentence("NEAREST of WANTED to a PICTURE: that with the fewest unlike CELLS, of several the least; how many"
            + " unlike; -9 none is WANTED.");
        SlidesOverSlides none = lanternOf(plain(1));
        due("none", none.nearest(1, 0), -9);
        due("none", none.nearest(1, 1), -9);
        SlidesOverSlides x = lanternOf(want(0x00FF), want(0x000F), want(0xFFFF), want(0x000F), want(0));
        int[] pictures = { 0x00FF, 0x000F, 0, 0xFFFF, 0x003F, 0x0003, 0xFF00, 0x0FFF, 0x0100, 0xF000 };
        int[] which = { 0, 1, 4, 2, 0, 1, 2, 0, 4, 4 };
        int[] unlike = { 0, 0, 0, 0, 2, 2, 8, 4, 1, 4 };
        for (int i = 0; i < pictures.length; i++) {
            due("which to " + pictures[i], x.nearest(pictures[i], 0), which[i]);
            due("unlike " + pictures[i], x.nearest(pictures[i], 1), unlike[i]);
        }
    }

    /** What the class itself shows by LAYING, at set times SETS and what is turned over; -1 for over outside of it. */
    private static int[] allShown() {
        SlidesOverSlides x = lanternOf(FIVE);
        int[] shown = new int[SETS * SETS];
        for (int set = 0; set < SETS; set++) {
            for (int over = 0; over < SETS; over++) {
                shown[set * SETS + over] = (over & ~set) == 0 ? x.lay(set, over) : -1;
            }
        }
        return shown;
    }

    private static int priceOf(int set) {
        int sum = 0;
        for (int i = 0; i < FIVE.length; i++) if ((set >> i & 1) == 1) sum += FIVE_PRICES[i];
        return sum;
    }

    private static int[] fewestOf(int[] shown, int picture) {
        int[] best = { -9, -9, -9, -9 };
        for (int size = FIVE.length; size >= 0; size--) {
            int[] found = { size, -1, -1, 0 };
            for (int at = 0; at < shown.length; at++) {
                if (shown[at] != picture || Integer.bitCount(at / SETS) != size) continue;
                if (found[3] == 0) {
                    found[1] = at / SETS;
                    found[2] = at % SETS;
                }
                found[3]++;
            }
            if (found[3] > 0) best = found;
        }
        return best;
    }

    private static int cheapestOf(int[] shown, int picture) {
        int best = -9;
        for (int at = 0; at < shown.length; at++) {
            if (shown[at] == picture && (best < 0 || priceOf(at / SETS) < best)) best = priceOf(at / SETS);
        }
        return best;
    }

    private static int nearOf(int[] shown, int picture) {
        int best = 16;
        for (int one : shown) if (one >= 0) best = Math.min(best, Integer.bitCount(one ^ picture));
        return best;
    }

    private static boolean isShownWithout(int[] shown, int picture, int without) {
        for (int at = 0; at < shown.length; at++) {
            if (shown[at] == picture && (without < 0 || (at / SETS >> without & 1) == 0)) return true;
        }
        return false;
    }

    private static void fewestIs(SlidesOverSlides x, int picture, int... answers) {
        for (int what = 0; what <= 3; what++) {
            due("fewest(" + picture + ", " + what + ")", x.fewest(picture, what), answers[what]);
        }
    }

    private static void mindOfFewest(int[] shown) {
        sentence("FEWEST of a PICTURE: how many SLIDES, each turned over or not, show just that; -9 (a PICTURE without"
            + " DARK CELLS: 0); the first such set (least bits); of it the least bits that are turned over; in how many"
            + " ways (sets and what is turned over; with so many SLIDES) it is shown.");
        // Slides of cell 0, cell 3, both, cell 4: turned over they are cell 3, cell 0, both, cell 7.
        SlidesOverSlides x = lanternOf(plain(1), plain(8), plain(9), plain(16));
        fewestIs(x, 0, 0, 0, 0, 1);
        fewestIs(x, 1, 1, 1, 0, 2);
        fewestIs(x, 8, 1, 1, 1, 2);
        fewestIs(x, 9, 1, 4, 0, 2);
        fewestIs(x, 16, 1, 8, 0, 1);
        fewestIs(x, 128, 1, 8, 8, 1);
        fewestIs(x, 17, 2, 9, 0, 2);
        fewestIs(x, 136, 2, 9, 9, 2);
        fewestIs(x, 25, 2, 12, 0, 2);
        fewestIs(x, 144, -9, -9, -9, -9);
        fewestIs(x, 2, -9, -9, -9, -9);
        fewestIs(lanternOf(plain(0)), 0, 0, 0, 0, 1);
        SlidesOverSlides all = null;
        for (int at = 0; at < shown.length; at += 7) {
            if (at % 119 == 0) all = lanternOf(FIVE);
            if (shown[at] >= 0) fewestIs(all, shown[at], fewestOf(shown, shown[at]));
        }
    }

    private static void mindOfCheapest(int[] shown) {
        sentence("CHEAPEST: the least PRICES together of a set that shows it, each turned over or not; -9.");
        SlidesOverSlides x = lanternOf(priced(5, 1), priced(6, 8), priced(12, 9), priced(99, 16));
        int[] pictures = { 0, 1, 8, 9, 16, 128, 25, 144, 2 };
        int[] least = { 0, 5, 5, 11, 99, 99, 110, -9, -9 };
        for (int i = 0; i < pictures.length; i++) {
            due("cheapest(" + pictures[i] + ")", x.cheapest(pictures[i]), least[i]);
        }
        x.price(2, 10);
        due("one in place of two", x.cheapest(9), 10);
        SlidesOverSlides all = lanternOf(FIVE);
        for (int at = 0; at < shown.length; at += 3) {
            int picture = shown[at];
            if (picture >= 0) due("cheapest(" + picture + ")", all.cheapest(picture), cheapestOf(shown, picture));
        }
        sentence("NEAR: the fewest CELLS in which one can come to a PICTURE by any set of SLIDES, each turned over or"
            + " not.");
        due("just that", x.near(25), 0);
        due("one too few", x.near(144), 1);
        due("one too many", x.near(0x1010), 1);
        due("none is nearest", x.near(0x8000), 1);
        due("four of sixteen", x.near(ALL), 13);
        SlidesOverSlides five = lanternOf(FIVE);
        for (int i = 0; i < 300; i++) {
            int picture = i * 48271 & ALL;
            due("near(" + picture + ")", five.near(picture), nearOf(shown, picture));
        }
    }

    private static void mindOfWorth(int[] shown) {
        sentence("CAN: WANTED (bits) that can be shown by any set, each turned over or not; WITHOUT a SLIDE likewise;"
            + " WORTH of a SLIDE: how many WANTED fewer without it.");
        SlidesOverSlides x = lanternOf(plain(1), plain(8), plain(16));
        for (int picture : new int[] { 9, 16, 2, 0, 128, 1 }) due("lantern", tell(x, want(picture)), 1);
        due("CAN", x.can(-1), 1 + 2 + 8 + 16 + 32);
        due("WITHOUT 0", x.can(0), 2 + 8 + 16 + 32);
        due("WITHOUT 1", x.can(1), 2 + 8 + 16 + 32);
        due("WITHOUT 2", x.can(2), 1 + 8 + 32);
        due("WORTH", x.worth(0), 1);
        due("WORTH", x.worth(1), 1);
        due("WORTH", x.worth(2), 2);
        for (int from = 0; from < shown.length; from += 101) {
            SlidesOverSlides five = lanternOf(FIVE);
            int[] wanted = new int[6];
            for (int i = 0; i < 6; i++) {
                wanted[i] = Math.max(0, shown[(from + i * 33) % shown.length]) ^ (i == 5 ? 0x0400 : 0);
                due("lantern", tell(five, want(wanted[i])), 1);
            }
            canOfFive(five, shown, wanted);
        }
    }

    private static void canOfFive(SlidesOverSlides five, int[] shown, int[] wanted) {
        int all = 0;
        for (int without = -1; without < FIVE.length; without++) {
            int bits = 0;
            for (int i = 0; i < 6; i++) if (isShownWithout(shown, wanted[i], without)) bits |= 1 << i;
            due("can(" + without + ")", five.can(without), bits);
            if (without < 0) all = bits;
            else due("worth(" + without + ")", five.worth(without), Integer.bitCount(all) - Integer.bitCount(bits));
        }
    }

    private static void mindOfSure() {
        sentence("SURE: one SLIDE, that nobody has seen, was laid over a known set (not turned over), and a PICTURE was"
            + " seen: CELLS (bits) that must be DARK on it; those that must be CLEAR; in how many ways it can be painted"
            + " (as it shows); -9 it can't be.");
        SlidesOverSlides x = lanternOf(plain(drawn("##..", "....", "....", "....")), slideOf(1, 0, 0, 0x0010));
        int seen = drawn("###.", "#..#", "....", "....");
        due("DARK by all", x.sure(3, seen, 0), drawn("..#.", "#...", "....", "...."));
        due("CLEAR by all", x.sure(3, seen, 1), drawn("...#", ".##.", "####", "####"));
        due("ways", x.sure(3, seen, 2), 8);
        due("DARK by one", x.sure(2, seen, 0), drawn("###.", "#...", "....", "...."));
        due("CLEAR by one", x.sure(2, seen, 1), drawn("...#", ".##.", "####", "####"));
        due("ways", x.sure(2, seen, 2), 2);
        due("DARK by none", x.sure(0, seen, 0), seen);
        due("CLEAR by none", x.sure(0, seen, 1), ALL - seen);
        due("ways", x.sure(0, seen, 2), 1);
        for (int what = 0; what <= 2; what++) due("a known dark cell is not seen", x.sure(3, seen - 1, what), -9);
    }

    private static void mindOfWho() {
        sentence("WHO: SLIDES (bits) of a set, of which one alone, if one CELL of what is ON it were CLEAR in place of"
            + " DARK, would make LAYING the set (none turned over) show just a told PICTURE, unlike that which it"
            + " shows; in how many ways (SLIDE and CELL).");
        SlidesOverSlides x = lanternOf(plain(drawn("##..", "....", "....", "....")),
            plain(drawn(".##.", "....", "....", "....")), slideOf(1, 0, 0, drawn("....", "#...", "....", "....")));
        int[] sets = { 7, 7, 7, 7, 7, 7, 7, 3, 3, 1, 1, 1, 2, 4, 0 };
        String[] seen = { ".##. ...#", "##.. ...#", "###. ....", "#.#. ...#", "###. ...#", "#... ...#", "#### ...#",
            ".##. ....", ".##. ...#", "#... ....", "#.#. ....", "###. ....", "..#. ....", ".... ....", ".... ...." };
        int[] who = { 1, 2, 4, 0, 0, 0, 0, 1, 0, 1, 0, 0, 2, 4, 0 };
        for (int i = 0; i < sets.length; i++) {
            int picture = drawn(seen[i].substring(0, 4), seen[i].substring(5), "....", "....");
            due("who of " + sets[i] + " by " + seen[i], x.who(sets[i], picture, 0), who[i]);
            due("ways of " + sets[i] + " by " + seen[i], x.who(sets[i], picture, 1), Integer.bitCount(who[i]));
        }
    }

    private static void mindOfDust() {
        sentence("DUST: how likely LAYING a set (none turned over) shows what it should, if each CELL that is CLEAR in"
            + " that becomes DARK by D tenths (0 .. 9): a fraction in least terms.");
        long[] above = { 1, 9, 4, 7, 3, 1, 2, 3, 1, 1 };
        long[] below = { 1, 10, 5, 10, 5, 2, 5, 10, 5, 10 };
        for (int clear = 0; clear <= 16; clear++) {
            SlidesOverSlides x = lanternOf(plain(ALL << clear & ALL));
            for (int tenths = 0; tenths <= 9; tenths++) {
                long[] whole = { 1, 1 };
                for (int i = 0; i < clear; i++) {
                    whole[0] *= above[tenths];
                    whole[1] *= below[tenths];
                }
                due("above, " + clear + " clear, " + tenths, x.dust(1, tenths, 0), whole[0]);
                due("below, " + clear + " clear, " + tenths, x.dust(1, tenths, 1), whole[1]);
            }
        }
        SlidesOverSlides two = lanternOf(plain(0xFFF0), slideOf(1, 0, 0, 0x0001));
        due("three clear in both", two.dust(3, 1, 0), 729);
        due("three clear in both", two.dust(3, 1, 1), 1000);
        SlidesOverSlides ends = lanternOf(plain(0x7FFF), plain(0x8000));
        due("none turned over: none clear", ends.dust(3, 9, 1), 1);
    }

    /** The least cost by all orders of these lists of sets, from the set that was laid last. */
    private static int roundFrom(int[][] sets, int done, int last) {
        int best = done == (1 << sets.length) - 1 ? 0 : 1000;
        for (int i = 0; i < sets.length; i++) {
            if ((done >> i & 1) == 1) continue;
            for (int set : sets[i]) {
                best = Math.min(best, Integer.bitCount(last ^ set) + roundFrom(sets, done | 1 << i, set));
            }
        }
        return best;
    }

    private static void roundIs(int cost, SlidesOverSlides x, int... wanted) {
        for (int picture : wanted) due("lantern", tell(x, want(picture)), 1);
        due("round()", x.round(), cost);
    }

    private static void mindOfRound(int[] shown) {
        sentence("ROUND: all WANTED that can be shown by a set with none turned over, each once, by such a set each; a"
            + " change from one to the next costs as many SLIDES as are in one of both sets alone; that first laid costs"
            + " its SLIDES: the least cost of all orders, all sets; -9 there are none, or more than 4.");
        roundIs(-9, lanternOf(plain(1)));
        roundIs(-9, lanternOf(plain(1)), 8, 2, 3);
        roundIs(1, lanternOf(plain(1)), 1);
        roundIs(0, lanternOf(plain(1)), 0);
        roundIs(2, lanternOf(plain(1), plain(2)), 3);
        // 1, then 3, then 2: 1 + 1 + 1.
        roundIs(3, lanternOf(plain(1), plain(2)), 1, 2, 3);
        // 1 and 2 share no slide: 1 + 2.
        roundIs(3, lanternOf(plain(1), plain(2)), 1, 2);
        // Slide 2 shows 3 alone, but behind 1 it is nearer by 0 and 1.
        roundIs(2, lanternOf(plain(1), plain(2), plain(3)), 1, 3);
        roundIs(1, lanternOf(plain(1), plain(2), plain(3)), 3);
        // 7 by all three, and each pair: 2 + 1 + 1 + 2.
        roundIs(6, lanternOf(plain(1), plain(2), plain(4)), 7, 3, 5, 6);
        roundIs(-9, lanternOf(plain(1), plain(2), plain(4)), 7, 3, 5, 6, 1);
        // Those that can't be shown do not count.
        roundIs(6, lanternOf(plain(1), plain(2), plain(4)), 8, 7, 3, 5, 6, 16);
        for (int from = 1; from < SETS; from += 3) {
            int[] wanted = { shown[from * SETS], shown[from * 7 % SETS * SETS], shown[from * 11 % SETS * SETS] };
            int[][] sets = new int[3][];
            for (int i = 0; i < 3; i++) sets[i] = setsThatShow(shown, wanted[i]);
            roundIs(roundFrom(sets, 0, 0), lanternOf(FIVE), wanted);
        }
    }

    private static int[] setsThatShow(int[] shown, int picture) {
        int found = 0;
        int[] sets = new int[SETS];
        for (int set = 0; set < SETS; set++) if (shown[set * SETS] == picture) sets[found++] = set;
        return Arrays.copyOf(sets, found);
    }

    private static void judgedIs(SlidesOverSlides x, int place, int... row) {
        for (int i = 0; i < row.length; i++) due("row", x.row(row[i]), i + 1);
        due("judge() of " + row.length + " beginning with " + (row.length > 0 ? row[0] : -1), x.judge(), place);
    }

    private static void mindOfRow() {
        sentence("A ROW of sets (0 .. 255; 12 at most): JUDGED: told sets PROJECTED one behind the other, each to show"
            + " a WANTED PICTURE, in mind: the place of the first that is not of 1 .. 4 SLIDES that there are, or shows"
            + " no WANTED one then; -9.");
        SlidesOverSlides x = lanternOf(plain(1), plain(2), plain(4), plain(8), plain(0));
        for (int picture : new int[] { 3, 15, 0, 1 }) due("lantern", tell(x, want(picture)), 1);
        judgedIs(x, -9);
        judgedIs(x, -9, 3);
        judgedIs(x, -9, 3, 15, 16, 1, 17, 19, 3, 3, 15, 15, 16, 17);
        judgedIs(x, 11, 3, 15, 16, 1, 17, 19, 3, 3, 15, 15, 16, 2);
        judgedIs(x, 0, 2, 3);
        judgedIs(x, 1, 3, 2, 3);
        judgedIs(x, 2, 3, 3, 0);
        judgedIs(x, 1, 15, 31, 15);
        judgedIs(x, 1, 3, 32);
        judgedIs(x, 0, 255);
        judgedIs(lanternOf(plain(1)), 0, 1);
        judgedIs(lanternOf(plain(0)), 0, 1);
        judgedIs(lanternOf(want(0)), 0, 0);
        // Heat 1: behind its first use cell 1 of slide 0 cracks, so the second show is 1.
        SlidesOverSlides y = lanternOf(plain(3), want(3), "h1;");
        judgedIs(y, 1, 1, 1);
        judgedIs(y, 1, 1, 1);
        due("told", tell(y, want(1)), 1);
        judgedIs(y, -9, 1, 1, 1);
        due("in mind: painted", y.slide(0, 2), 3);
        due("in mind: USES", y.slide(0, 5), 0);
    }

    private static void mindOfSeeds() {
        sentence("SEEDS: n times (1 .. 40) with a seed z, in mind: two DRAWS below how many SLIDES are PROJECTED (one"
            + " alone, if both are one): CELLS DARK in all shows together.");
        // One slide: both draws are 0, it is projected alone.
        SlidesOverSlides one = lanternOf(plain(7));
        for (int n = 1; n <= 8; n++) due("one slide, " + n, one.seeds(n, 77), 3 * n);
        due("USES", one.count(3), 0);
        sentence("DRAWS: z becomes z times 1103515245 and 12345 (an int); a DRAW below n is (z without its sign's bit by"
            + " 65536, cut) modulo n.");
        // From 0: 12345, then 12345 * 1103515245 + 12345 = 13622895711870, of which an int keeps -740551042.
        due("by hand", (int) (12345L * 1103515245L + 12345L), -740551042);
        // 12345 / 65536 is 0; (-740551042 + 2147483648) / 65536 is 21468, modulo 5 it is 3.
        SlidesOverSlides five = lanternOf(plain(1), plain(2), plain(0x00F0), plain(0x7E00), plain(8));
        due("slides 0 and 3", five.seeds(1, 0), 1 + 6);
        for (int slides = 1; slides <= 8; slides++) {
            for (int watched = 0; watched < slides; watched++) {
                for (int z : new int[] { 0, 1, -1, GREATEST, LEAST, 65536, 20261118 }) drawnIs(slides, watched, z);
            }
        }
    }

    /** One slide alone has a dark cell, so that the answer tells in how many shows it was drawn. */
    private static void drawnIs(int slides, int watched, int seed) {
        SlidesOverSlides x = new SlidesOverSlides();
        for (int i = 0; i < slides; i++) due("lantern", tell(x, plain(i == watched ? 1 : 0)), 1);
        long z = seed;
        int dark = 0;
        for (int n = 1; n <= 8; n++) {
            z = (int) (z * 1103515245L + 12345L);
            long first = (z < 0 ? z + 2147483648L : z) / 65536 % slides;
            z = (int) (z * 1103515245L + 12345L);
            long second = (z < 0 ? z + 2147483648L : z) / 65536 % slides;
            if (first == watched || second == watched) dark++;
            due("seeds(" + n + ", " + seed + ") of " + slides, x.seeds(n, seed), dark);
        }
    }

    private static void theImage() {
        sentence("THE IMAGE: all that there is, but it, letters, the ROW, REFUSALS.");
        SlidesOverSlides x = lanternOf(slideOf(4, 9, 33, 0x0F0F), want(77), "h3;");
        x.project(1);
        due("image()", x.image(), 1);
        for (int i = 0; i < 2; i++) {
            x.heat(1);
            x.price(0, 1);
            x.project(1);
            due("told", tell(x, plain(5) + want(6)), 2);
            x.feed('h');
            x.row(1);
            x.wanted(6);
            due("restore()", x.restore(), 1);
            int[] slide = { 4, 9, 0x0F0F, 0x0D0F, 33, 1 };
            for (int what = 0; what <= 5; what++) due("slide " + what, x.slide(0, what), slide[what]);
            due("wanted", x.wanted(0), 77);
            int[] counts = { 1, 1, 3, 1, 33, 1, i + 1 };
            for (int what = 0; what <= 6; what++) due("count " + what, x.count(what), counts[what]);
            refusalsAre(x, i + 1, 0, 0, 0, 0, 0);
            due("the letter that stayed", x.lantern(), -1001);
        }
    }

    private static void refusals() {
        sentence("REFUSALS (the call answers the number, the first that fits in the order in which it tells them;"
            + " nothing changes but how many there were): -1 NOBODY: no such SLIDE, WANTED PICTURE, bits of SLIDES that"
            + " are not there.");
        SlidesOverSlides x = lanternOf(plain(1), want(1));
        due("SLIDE", x.slide(1, 0), -1);
        due("WANTED PICTURE", x.wanted(1), -1);
        due("bits of SLIDES", x.lay(2, 0), -1);
        due("the first that fits", x.sure(2, -1, 9), -1);
        sentence("-2 OTHER: what.");
        due("what", x.slide(0, 6), -2);
        due("the first that fits", x.sure(1, -1, 9), -2);
        sentence("-3 STATE: it is not as told.");
        due("STATE", x.project(0), -3);
        due("STATE", x.restore(), -3);
        sentence("-4 BELOW: a number below the least.");
        due("BELOW", x.heat(0), -4);
        due("the first that fits", x.sure(1, -1, 0), -4);
        sentence("-6 ROOM: a number above the greatest, no room.");
        due("above", x.heat(10), -6);
        for (int i = 1; i <= 12; i++) due("row", x.row(0), i);
        due("no room", x.row(0), -6);
        sentence("Of longs 4000000000000000000 less them.");
        due("-1", x.dust(2, 0, 0), 4000000000000000000L - -1);
        due("-2", x.dust(1, 0, 2), 4000000000000000000L - -2);
        due("-4", x.dust(1, -1, 0), 4000000000000000000L - -4);
        due("-6", x.dust(1, 10, 0), 4000000000000000000L - -6);
        refusalsAre(x, 5, 3, 2, 3, 0, 3);
        int[] counts = { 1, 1, 9, 0, 1, 0, 12 };
        for (int what = 0; what <= 6; what++) due("nothing else changed: " + what, x.count(what), counts[what]);
    }

    // ---- Promises ----

    private static void promises1To7() {
        sentence("`SlidesOverSlides()`: No SLIDES, HEAT 9.");
        SlidesOverSlides x = new SlidesOverSlides();
        for (int what = 0; what <= 6; what++) due("count " + what, x.count(what), what == 2 ? 9 : 0);
        refusalsAre(x, 0, 0, 0, 0, 0, 0);
        sentence("`int feed(int letter)`: A letter comes: how many there are. -4; -6 (255; 80, too).");
        for (int i = 1; i <= 80; i++) due("feed", x.feed(i == 1 ? 0 : 255), i);
        due("a letter below, no room", x.feed(-1), -4);
        due("a letter above, no room", x.feed(256), -6);
        due("no room", x.feed(0), -6);
        due("letters", x.count(5), 80);
        sentence("`int lantern()`: The letters, which are no more then, are a LANTERN: how many STATEMENTS; the FAULT"
            + " (nothing is counted).");
        due("the FAULT", x.lantern(), -1000);
        due("no more", x.count(5), 0);
        refusalsAre(x, 0, 0, 0, 1, 0, 2);
        due("STATEMENTS", tell(x, slideOf(5, 3, 42, 9) + want(8)), 2);
        due("no more", x.count(5), 0);
        due("none are left", x.lantern(), -1000);
        sentence("`int slide(int slide, int what)`: Of a SLIDE: KIND (what 0), FIGURE (1), what was painted (2), what is"
            + " ON it (3), PRICE (4), USES (5). -1; -2.");
        // Cell 3 cracks, cell 0 comes to place 3.
        int[] answers = { 5, 3, 9, 8, 42, 0 };
        for (int what = 0; what <= 5; what++) due("what " + what, x.slide(0, what), answers[what]);
        due("no such", x.slide(1, 0), -1);
        due("no such, what either", x.slide(-1, 6), -1);
        due("what", x.slide(0, 6), -2);
        due("what", x.slide(0, -1), -2);
        sentence("`int wanted(int i)`: A WANTED PICTURE. -1.");
        due("wanted", x.wanted(0), 8);
        due("wanted", x.wanted(1), -1);
        due("wanted", x.wanted(-1), -1);
        sentence("`int heat(int v)`: HEAT becomes v: what it was. -4; -6 9.");
        due("heat", x.heat(5), 9);
        due("heat", x.heat(9), 5);
        due("heat", x.heat(0), -4);
        due("heat", x.heat(10), -6);
        due("HEAT", x.count(2), 9);
        sentence("`int price(int slide, int v)`: PRICE of a SLIDE becomes v: what it was. -1; -4; -6 99.");
        due("price", x.price(0, 99), 42);
        due("price", x.price(0, 0), 99);
        due("price", x.price(0, -1), -4);
        due("price", x.price(0, 100), -6);
        due("price", x.price(1, -1), -1);
        due("PRICE", x.slide(0, 4), 0);
        refusalsAre(x, 5, 2, 0, 3, 0, 4);
    }

    private static void promises8To14() {
        sentence("`int lay(int set, int over)`: LAYING a set, some turned over (bits that are not in the set do not"
            + " matter): the PICTURE. -1 either (bits of SLIDES that are not there).");
        SlidesOverSlides x = lanternOf(plain(1), plain(0x0020), want(0x0021));
        due("lay", x.lay(3, 0), 0x0021);
        due("lay", x.lay(3, 1), 0x0028);
        due("not in the set", x.lay(2, 1), 0x0020);
        due("not in the set", x.lay(2, 3), 0x0040);
        due("not there", x.lay(4, 0), -1);
        due("not there", x.lay(1, 4), -1);
        due("not there either", x.lay(-1, -1), -1);
        sentence("`int project(int set)`: To PROJECT: the PICTURE. -1; -3 none, more than 4.");
        due("project", x.project(3), 0x0021);
        due("project", x.project(7), -1);
        due("none", x.project(0), -3);
        SlidesOverSlides y = lanternOf(plain(1), plain(2), plain(4), plain(8), plain(16));
        due("4", y.project(30), 30);
        due("more", y.project(31), -3);
        due("more, not there", y.project(63), -1);
        sentence("`int gaps(int picture, int what)`: GAPS: how many (what 0), groups (1). -2; -4; -6 65535.");
        due("gaps", x.gaps(0xFFF6, 0), 2);
        due("gaps", x.gaps(0xFFF6, 1), 2);
        due("gaps", x.gaps(65536, 2), -2);
        due("gaps", x.gaps(-1, 1), -4);
        due("gaps", x.gaps(65536, 1), -6);
        sentence("`int nearest(int picture, int what)`: NEAREST: which (what 0), how many unlike (1); -9. -2; -4;"
            + " -6 65535.");
        due("nearest", x.nearest(0x0020, 0), 0);
        due("nearest", x.nearest(0x0020, 1), 1);
        due("nearest", y.nearest(0x0020, 1), -9);
        due("nearest", y.nearest(65536, 2), -2);
        due("nearest", y.nearest(-1, 0), -4);
        due("nearest", y.nearest(65536, 0), -6);
        sentence("`int fewest(int picture, int what)`: FEWEST: how many (what 0), the set (1), turned over (2), ways"
            + " (3); -9 each. -2; -4; -6 65535.");
        // 0x0028 is slide 0 turned over and slide 1.
        fewestIs(x, 0x0028, 2, 3, 1, 1);
        fewestIs(x, 0x8000, -9, -9, -9, -9);
        due("fewest", x.fewest(-1, 4), -2);
        due("fewest", x.fewest(-1, 3), -4);
        due("fewest", x.fewest(65536, 3), -6);
        sentence("`int cheapest(int picture)`: CHEAPEST; -9. -4; -6 65535.");
        due("cheapest", x.cheapest(0x0028), 2);
        due("cheapest", x.cheapest(0x8000), -9);
        due("cheapest", x.cheapest(-1), -4);
        due("cheapest", x.cheapest(65536), -6);
        sentence("`int near(int picture)`: NEAR. -4; -6 65535.");
        due("near", x.near(0x8028), 1);
        due("near", x.near(-1), -4);
        due("near", x.near(65536), -6);
        refusalsAre(x, 4, 2, 1, 4, 0, 4);
        refusalsAre(y, 1, 1, 1, 1, 0, 1);
    }

    private static void promises15To20() {
        sentence("`int can(int slide)`: CAN (slide -1), WITHOUT a SLIDE (bits). -1 (below -1, too).");
        SlidesOverSlides x = lanternOf(plain(1), plain(2), want(3), want(8));
        due("can", x.can(-1), 3);
        due("without 0", x.can(0), 0);
        due("without 1", x.can(1), 2);
        due("can", x.can(2), -1);
        due("can", x.can(-2), -1);
        sentence("`int worth(int slide)`: WORTH. -1.");
        due("worth", x.worth(0), 2);
        due("worth", x.worth(1), 1);
        due("worth", x.worth(2), -1);
        due("worth", x.worth(-1), -1);
        sentence("`int sure(int set, int picture, int what)`: SURE: DARK ones (what 0), CLEAR ones (1), ways (2); -9"
            + " each. -1; -2; -4; -6 65535.");
        due("sure", x.sure(3, 7, 0), 4);
        due("sure", x.sure(3, 7, 1), 0xFFF8);
        due("sure", x.sure(3, 7, 2), 4);
        for (int what = 0; what <= 2; what++) due("sure", x.sure(3, 6, what), -9);
        due("sure", x.sure(4, -1, 3), -1);
        due("sure", x.sure(3, -1, 3), -2);
        due("sure", x.sure(3, -1, 2), -4);
        due("sure", x.sure(3, 65536, 2), -6);
        sentence("`int who(int set, int picture, int what)`: WHO (what 0, bits), ways (1). -1; -2; -4; -6 65535.");
        due("who", x.who(3, 1, 0), 2);
        due("who", x.who(3, 1, 1), 1);
        due("who", x.who(4, -1, 2), -1);
        due("who", x.who(3, -1, 2), -2);
        due("who", x.who(3, -1, 1), -4);
        due("who", x.who(3, 65536, 1), -6);
        sentence("`long dust(int set, int tenths, int part)`: DUST, part 0 above, 1 below the line. Refused as told: -1;"
            + " -2; -4; -6 9.");
        due("dust", x.dust(3, 5, 0), 1);
        due("dust", x.dust(3, 5, 1), 16384);
        due("dust", x.dust(4, -1, 2), 4000000000000000001L);
        due("dust", x.dust(3, -1, 2), 4000000000000000002L);
        due("dust", x.dust(3, -1, 1), 4000000000000000004L);
        due("dust", x.dust(3, 10, 1), 4000000000000000006L);
        refusalsAre(x, 7, 3, 0, 3, 0, 3);
        sentence("`int round()`: ROUND; -9.");
        due("round", x.round(), 2);
        due("round", new SlidesOverSlides().round(), -9);
    }

    private static void promises21To26() {
        sentence("`int row(int set)`: A set more of the ROW: how many. -4; -6 (255; 12, too).");
        SlidesOverSlides x = lanternOf(plain(1), want(1));
        for (int i = 1; i <= 12; i++) due("row", x.row(i == 12 ? 255 : 1), i);
        due("row", x.row(-1), -4);
        due("row", x.row(256), -6);
        due("row", x.row(1), -6);
        sentence("`int judge()`: JUDGED; -9 (the ROW has none then).");
        due("judge", x.judge(), 11);
        due("the ROW", x.count(6), 0);
        due("judge", x.judge(), -9);
        due("row", x.row(1), 1);
        due("judge", x.judge(), -9);
        due("the ROW", x.count(6), 0);
        sentence("`int seeds(int n, int z)`: SEEDS. -4; -6 40; -3 there are no SLIDES.");
        SlidesOverSlides none = new SlidesOverSlides();
        due("seeds", none.seeds(0, 0), -4);
        due("seeds", none.seeds(41, 0), -6);
        due("seeds", none.seeds(40, 0), -3);
        // Behind use 9 cell 9 cracks, 18 cell 2, 27 cell 11, 36 cell 4: all are clear already.
        due("seeds", x.seeds(40, 0), 40);
        sentence("`int image()`: THE IMAGE is taken: how many SLIDES.");
        due("image", none.image(), 0);
        due("image", x.image(), 1);
        sentence("`int restore()`: It is RESTORED: how many SLIDES. -3 there is none.");
        due("told", tell(x, plain(2)), 1);
        due("restore", x.restore(), 1);
        due("SLIDES", x.count(0), 1);
        due("restore", none.restore(), 0);
        due("restore", new SlidesOverSlides().restore(), -3);
        sentence("`int count(int what)`: 0 SLIDES, 1 WANTED, 2 HEAT, 3 all USES, 4 all PRICES, 5 letters, 6 in the ROW,"
            + " 11 .. 16 REFUSALS -1 .. -6. -9 for another what.");
        SlidesOverSlides y = lanternOf(priced(30, 1), priced(12, 2), want(1), want(2), want(3), "h7;");
        y.project(3);
        y.project(2);
        for (int i = 0; i < 4; i++) y.feed('x');
        for (int i = 0; i < 5; i++) y.row(i);
        int[] counts = { 2, 3, 7, 3, 42, 4, 5 };
        for (int what = 0; what <= 6; what++) due("count " + what, y.count(what), counts[what]);
        y.wanted(3);
        for (int i = 0; i < 2; i++) y.slide(0, 6);
        for (int i = 0; i < 3; i++) y.project(0);
        for (int i = 0; i < 4; i++) y.feed(-1);
        for (int i = 0; i < 6; i++) y.feed(256);
        refusalsAre(y, 1, 2, 3, 4, 0, 6);
        for (int what : new int[] { -1, 7, 8, 9, 10, 17, 18, LEAST, GREATEST }) due("count " + what, y.count(what), -9);
    }

    private static void notPromised() {
        sentence("How the state is held inside the object is free, as are the speed of each call, the text of toString"
            + " and the behaviour of equals and hashCode. Use of one object from several threads at once is not promised"
            + " to be safe. Nothing is promised beyond the answers and state changes described above, and nothing about"
            + " an object after its 512th call.");
        due("what is left of the document: " + unquoted, unquoted.length(), 0);
    }

    public static void main(String[] args) throws Exception {
        String document = isHere ? Files.readString(DOCUMENT) : "";
        unquoted = sentencesOf(document);
        if (!isHere) System.out.println("there is no " + DOCUMENT + ": its words are not compared");
        whatItIs();
        if (isHere) theFace(document);
        termsOfPictures();
        termsOfSlides();
        whatIsOn();
        termsOfLaying();
        termsOfProjecting();
        termsOfLanterns();
        termsOfFaults();
        mindOfPictures();
        mindOfNearest();
        int[] shown = allShown();
        mindOfFewest(shown);
        mindOfCheapest(shown);
        mindOfWorth(shown);
        mindOfSure();
        mindOfWho();
        mindOfDust();
        mindOfRound(shown);
        mindOfRow();
        mindOfSeeds();
        theImage();
        refusals();
        promises1To7();
        promises8To14();
        promises15To20();
        promises21To26();
        notPromised();
        end();
    }
}
