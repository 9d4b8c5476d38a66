/** What goes round: rows that are shifted, cells that crack by uses, draws of which an int and a bit are left. */
public final class WrapTest extends Checks {
    private static final int ALL = 65535;

    /** What is on a slide of kind 5 with this figure, of which this was painted. */
    private static int shifted(int figure, int picture) {
        return lanternOf(slideOf(5, figure, 0, picture)).slide(0, 3);
    }

    private static void shiftedRound() {
        about("SHIFTED: each row shifted FIGURE modulo 4 places to the right, round");
        // Row 3 can't crack: figures are cells of rows 0 .. 2.
        int[] leftmost = { 0x1000, 0x2000, 0x4000, 0x8000, 0x1000, 0x2000, 0x4000, 0x8000, 0x1000, 0x2000 };
        int[] rightmost = { 0x8000, 0x1000, 0x2000, 0x4000, 0x8000, 0x1000, 0x2000, 0x4000, 0x8000, 0x1000 };
        int[] three = { 0x7000, 0xE000, 0xD000, 0xB000, 0x7000, 0xE000, 0xD000, 0xB000, 0x7000, 0xE000 };
        for (int figure = 0; figure <= 9; figure++) {
            due("the leftmost by " + figure, shifted(figure, 0x1000), leftmost[figure]);
            due("the rightmost by " + figure, shifted(figure, 0x8000), rightmost[figure]);
            due("three by " + figure, shifted(figure, 0x7000), three[figure]);
            due("a whole row by " + figure, shifted(figure, 0xF000), 0xF000);
        }
    }

    private static void shiftedInItsRow() {
        about("SHIFTED: each row by itself");
        due("rightmost cells by 1", shifted(1, 0x8888), 0x1111);
        due("leftmost cells by 3", shifted(3, 0x1111), 0x8888);
        due("rightmost cells by 5", shifted(5, 0x8888), 0x1111);
        due("a row each by 2", shifted(6, 0x8421), 0x2184);
    }

    private static void shiftedBehindCracked() {
        about("SHIFTED: what is on a CRACKED (CELL FIGURE CLEAR)");
        int[] on = { 0xFFFE, 0xFFFB, 0xFFFE, 0xFFFB, 0xFFEF, 0xFFBF, 0xFFEF, 0xFFBF, 0xFEFF, 0xFBFF };
        for (int figure = 0; figure <= 9; figure++) due("all dark by " + figure, shifted(figure, ALL), on[figure]);
    }

    private static void crackedAtEachFigure() {
        about("CRACKED: CELL FIGURE CLEAR (0 .. 9)");
        int[] on = { 0xFFFE, 0xFFFD, 0xFFFB, 0xFFF7, 0xFFEF, 0xFFDF, 0xFFBF, 0xFF7F, 0xFEFF, 0xFDFF };
        for (int figure = 0; figure <= 9; figure++) {
            SlidesOverSlides x = lanternOf(slideOf(4, figure, 0, ALL));
            due("on it", x.slide(0, 3), on[figure]);
            due("painted", x.slide(0, 2), ALL);
        }
    }

    private static void otherKindsKnowNoFigure() {
        about("KINDS 0 .. 3: the FIGURE does not matter");
        int[] on = { 0x8421, 0x1248, 0x8421, 0x7BDE };
        for (int kind = 0; kind <= 3; kind++) {
            for (int figure = 0; figure <= 9; figure += 3) {
                SlidesOverSlides x = lanternOf(slideOf(kind, figure, 0, 0x8421));
                due("kind " + kind, x.slide(0, 3), on[kind]);
                due("figure", x.slide(0, 1), figure);
            }
        }
    }

    private static void turnedOverBehindAllElse() {
        about("turned over: each row from the right to the left, behind all else");
        int painted = 0x0013;
        int[] straight = { 0x0013, 0x008C, 0xC800, 0xFFEC, 0x0011, 0x0022 };
        int[] over = { 0x008C, 0x0013, 0x3100, 0xFF73, 0x0088, 0x0044 };
        for (int kind = 0; kind <= 5; kind++) {
            SlidesOverSlides x = lanternOf(slideOf(kind, 1, 0, painted));
            due("kind " + kind, x.lay(1, 0), straight[kind]);
            due("kind " + kind + " turned over", x.lay(1, 1), over[kind]);
        }
    }

    private static void usesModulo16() {
        about("the painted CELL (USES modulo 16) is CLEAR then");
        int[] behind = { 0xFFFD, 0xFFF9, 0xFFF1, 0xFFE1, 0xFFC1, 0xFF81, 0xFF01, 0xFE01, 0xFC01, 0xF801, 0xF001, 0xE001,
            0xC001, 0x8001, 0x0001, 0x0000, 0x0000 };
        SlidesOverSlides x = lanternOf(plain(ALL));
        due("heat", x.heat(1), 9);
        for (int i = 0; i < behind.length; i++) {
            due("shown before it cracks", x.project(1), i == 0 ? ALL : behind[i - 1]);
            due("behind use " + (i + 1), x.slide(0, 2), behind[i]);
            due("uses", x.slide(0, 5), i + 1);
        }
    }

    private static void roundAgain() {
        about("USES modulo 16, the second and the last time round");
        SlidesOverSlides x = lanternOf(plain(ALL));
        due("heat", x.heat(9), 9);
        // 9, 18, 27, 36, 45, 54, 63, 72, 81, 90, 99: cells 9 2 11 4 13 6 15 8 1 10 3
        int[] behind = { 0xFDFF, 0xFDFB, 0xF5FB, 0xF5EB, 0xD5EB, 0xD5AB, 0x55AB, 0x54AB, 0x54A9, 0x50A9, 0x50A1 };
        for (int i = 1; i <= 99; i++) {
            x.project(1);
            due("behind use " + i, x.slide(0, 2), i < 9 ? ALL : behind[i / 9 - 1]);
        }
    }

    private static void dividedByHeat() {
        about("those whose USES can be divided by HEAT crack");
        int[] behindNine = { 0xFC01, 0xFEAB, 0xFDB7, 0xFEEF, 0xFFDF, 0xFFBF, 0xFF7F, 0xFEFF, 0xFDFF };
        for (int heat = 1; heat <= 9; heat++) {
            SlidesOverSlides x = lanternOf(plain(ALL), "h" + heat + ";");
            for (int i = 1; i < heat; i++) x.project(1);
            due("whole before use " + heat, x.slide(0, 2), ALL);
            for (int i = heat; i <= 9; i++) x.project(1);
            due("heat " + heat + " behind nine uses", x.slide(0, 2), behindNine[heat - 1]);
        }
    }

    private static void onlyThoseProjected() {
        about("those (of the set that is PROJECTED) crack");
        SlidesOverSlides x = lanternOf(plain(ALL), plain(ALL), plain(ALL));
        for (int i = 0; i < 3; i++) due("project", x.project(2), ALL);
        due("heat", x.heat(3), 9);
        for (int i = 0; i < 2; i++) due("project", x.project(1), ALL);
        due("slide 1 with 3 uses is whole", x.slide(1, 2), ALL);
        due("slide 2 with 0 uses is whole", x.slide(2, 2), ALL);
        due("both", x.project(3), ALL);
        due("slide 0 with 3 uses", x.slide(0, 2), 0xFFF7);
        due("slide 1 with 4 uses is whole", x.slide(1, 2), ALL);
        due("the heat of then counts", x.heat(5), 3);
        due("both", x.project(3), ALL);
        due("slide 0 with 4 uses", x.slide(0, 2), 0xFFF7);
        due("slide 1 with 5 uses", x.slide(1, 2), 0xFFDF);
        due("uses", x.count(3), 9);
    }

    private static void crackIsOfWhatWasPainted() {
        about("the painted CELL is CLEAR then, whatever the KIND");
        // Heat 1: behind the first use painted cell 1 is clear.
        int[] before = { 0xFFFF, 0xFFFF, 0xFFFF, 0x0000, 0xFDFF, 0xFBFF };
        int[] behind = { 0xFFFD, 0xFFFB, 0xBFFF, 0x0002, 0xFDFD, 0xFBFB };
        for (int kind = 0; kind <= 5; kind++) {
            SlidesOverSlides x = lanternOf(slideOf(kind, 9, 0, ALL), "h1;");
            due("kind " + kind, x.project(1), before[kind]);
            due("painted", x.slide(0, 2), 0xFFFD);
            due("on it", x.slide(0, 3), behind[kind]);
            due("kind " + kind + " again", x.project(1), behind[kind]);
        }
    }

    /**
     * The draws are those that the C standard prints for its example: by the seed 1 they are 16838, 5758, 10113, 17515,
     * 31051, 5627, 23010, 7419, 16212, 4086; by 0 they are 0, 21468, 9988, 22117, 3498, 16927, 16045, 19741, 12122, 8410.
     */
    private static void draws() {
        about("z becomes z times 1103515245 and 12345 (an int)");
        int[] cells = { 0x0001, 0x0006, 0x0078, 0x7F80 };
        int[] dark = { 1, 2, 4, 8 };
        int[][] byOne = { { 16838, 5758 }, { 10113, 17515 }, { 31051, 5627 }, { 23010, 7419 }, { 16212, 4086 } };
        int[][] byNone = { { 0, 21468 }, { 9988, 22117 }, { 3498, 16927 }, { 16045, 19741 }, { 12122, 8410 } };
        for (int slides = 1; slides <= 4; slides++) {
            SlidesOverSlides x = new SlidesOverSlides();
            for (int i = 0; i < slides; i++) due("lantern", tell(x, plain(cells[i])), 1);
            drawn(x, 1, byOne, slides, dark);
            drawn(x, 0, byNone, slides, dark);
        }
    }

    /** Five shows use a slide five times at most, so nothing cracks at heat 9. */
    private static void drawn(SlidesOverSlides x, int z, int[][] pairs, int slides, int[] dark) {
        int sum = 0;
        for (int n = 1; n <= pairs.length; n++) {
            int first = pairs[n - 1][0] % slides;
            int second = pairs[n - 1][1] % slides;
            sum += dark[first] + (second == first ? 0 : dark[second]);
            due("seeds(" + n + ", " + z + ") of " + slides, x.seeds(n, z), sum);
            due("the sign's bit of z never matters", x.seeds(n, z ^ LEAST), sum);
        }
    }

    /** -1 becomes -1103502900, without its sign's bit 1043980748, by 65536 cut 15929; then 288979989, cut 4409. */
    private static void withoutSign() {
        about("z without its sign's bit by 65536, cut");
        int[] dark = { 1, 2, 3, 4, 5, 6, 7 };
        for (int slides = 1; slides <= 7; slides++) {
            SlidesOverSlides x = new SlidesOverSlides();
            // Of two slides the one with more dark cells hides the other.
            for (int i = 0; i < slides; i++) due("lantern", tell(x, plain((1 << dark[i]) - 1)), 1);
            int most = Math.max(15929 % slides, 4409 % slides);
            due("seeds(1, -1) of " + slides, x.seeds(1, -1), dark[most]);
            due("seeds(1, GREATEST) of " + slides, x.seeds(1, GREATEST), dark[most]);
        }
    }

    private static void oneAlone() {
        about("SEEDS: one alone, if both are one");
        SlidesOverSlides x = lanternOf(plain(ALL), "h2;");
        // One slide is used once in each show: it cracks behind the second, the fourth ..
        int[] sums = { 16, 32, 47, 62, 76, 90, 103, 116 };
        for (int n = 1; n <= 8; n++) due("seeds(" + n + ", 3)", x.seeds(n, 3), sums[n - 1]);
        due("uses", x.count(3), 0);
        due("painted", x.slide(0, 2), ALL);
    }

    private static void seedsGoOnFromNow() {
        about("SEEDS in mind: uses and heat as they are now, nothing stays");
        SlidesOverSlides x = lanternOf(plain(ALL));
        for (int i = 0; i < 8; i++) x.project(1);
        due("behind the 9th use a crack", x.seeds(2, 1), 16 + 15);
        due("again", x.seeds(2, 1), 16 + 15);
        due("heat", x.heat(5), 9);
        due("behind the 10th use a crack", x.seeds(3, 1), 16 + 16 + 15);
        due("uses", x.count(3), 8);
        due("the real one", x.project(1), ALL);
        due("painted", x.slide(0, 2), ALL);
    }

    private static void judgedByUse() {
        about("JUDGED: told sets PROJECTED one behind the other, in mind");
        SlidesOverSlides x = lanternOf(plain(ALL), want(ALL), "h3;");
        for (int i = 1; i <= 5; i++) x.row(1);
        due("behind the third use a crack", x.judge(), 3);
        due("uses", x.count(3), 0);
        due("project", x.project(1), ALL);
        for (int i = 1; i <= 5; i++) x.row(1);
        due("uses as they are now", x.judge(), 2);
        due("lantern", tell(x, want(0xFFF7)), 1);
        for (int i = 1; i <= 7; i++) x.row(1);
        due("cracked as it is wanted, until the 6th use", x.judge(), 5);
        due("painted", x.slide(0, 2), ALL);
    }

    public static void main(String[] args) {
        shiftedRound();
        shiftedInItsRow();
        shiftedBehindCracked();
        crackedAtEachFigure();
        otherKindsKnowNoFigure();
        turnedOverBehindAllElse();
        usesModulo16();
        roundAgain();
        dividedByHeat();
        onlyThoseProjected();
        crackIsOfWhatWasPainted();
        draws();
        withoutSign();
        oneAlone();
        seedsGoOnFromNow();
        judgedByUse();
        end();
    }
}
