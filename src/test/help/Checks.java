import java.util.ArrayList;
import java.util.List;

/** What the tests share, which are written as classes under this one: asking for an answer, telling lanterns, looking at all that an object holds. */
abstract class Checks {
    static final int LEAST = Integer.MIN_VALUE;
    static final int GREATEST = Integer.MAX_VALUE;
    static final String BLANK = "................";
    /** Where lookedAt tells how many refusals -1 there were; the others stand behind it. */
    private static final int REFUSALS_AT = 7;

    private static int asked = 0;
    private static int wrong = 0;
    private static String sentence = "";

    /** The promise or the sentence that the next answers are about. */
    static void about(String words) {
        sentence = words;
    }

    static void due(String call, long got, long want) {
        asked++;
        if (got == want) return;
        wrong++;
        System.out.println(sentence + ": " + call + " answered " + got + ", due is " + want);
    }

    /** Prints how it went; ends with exit code 1 if an answer was not the one that is due. */
    static void end() {
        System.out.println(asked + " answers asked, " + wrong + " not as due");
        if (wrong != 0) System.exit(1);
    }

    static void feedAll(SlidesOverSlides x, String letters) {
        for (int i = 0; i < letters.length(); i++) due("feed " + i, x.feed(letters.charAt(i)), i + 1);
    }

    static int tell(SlidesOverSlides x, String letters) {
        feedAll(x, letters);
        return x.lantern();
    }

    /** A new object to which each of these statements was told as a lantern of its own. */
    static SlidesOverSlides lanternOf(String... statements) {
        SlidesOverSlides x = new SlidesOverSlides();
        for (String statement : statements) due("lantern " + statement, tell(x, statement), 1);
        return x;
    }

    /** A statement's sixteen cells for a picture told as bits. */
    static String cells(int picture) {
        StringBuilder text = new StringBuilder();
        for (int i = 0; i < 16; i++) text.append((picture >> i & 1) != 0 ? '#' : '.');
        return text.toString();
    }

    static String plain(int picture) {
        return slideOf(0, 0, 1, picture);
    }

    static String priced(int price, int picture) {
        return slideOf(0, 0, price, picture);
    }

    static String slideOf(int kind, int figure, int price, int picture) {
        return "s" + kind + figure + price + "," + cells(picture) + ";";
    }

    static String want(int picture) {
        return "w" + cells(picture) + ";";
    }

    /** How many refusals -1, -2, -3, -4, -5, -6 there were. */
    static void refusalsAre(SlidesOverSlides x, int... counts) {
        for (int i = 0; i < 6; i++) due("count(" + (11 + i) + ")", x.count(11 + i), counts[i]);
    }

    /** All that an object answers of itself; the row, the letters and the image are used up by it. */
    static List<Integer> lookedAt(SlidesOverSlides x) {
        List<Integer> all = new ArrayList<>();
        for (int what = 0; what <= 6; what++) all.add(x.count(what));
        for (int what = 11; what <= 16; what++) all.add(x.count(what));
        lookAtLantern(x, all);
        all.add(x.judge());
        all.add(x.lantern());
        lookAtLantern(x, all);
        all.add(x.restore());
        lookAtLantern(x, all);
        return all;
    }

    private static void lookAtLantern(SlidesOverSlides x, List<Integer> all) {
        int slides = x.count(0);
        int wanted = x.count(1);
        all.add(slides);
        all.add(wanted);
        all.add(x.count(2));
        for (int i = 0; i < slides; i++) {
            for (int what = 0; what <= 5; what++) all.add(x.slide(i, what));
        }
        for (int i = 0; i < wanted; i++) all.add(x.wanted(i));
    }

    /** That two objects made alike are alike still, but for one refusal more of this number (0: none) on x. */
    static void stillAlike(String call, SlidesOverSlides x, SlidesOverSlides untouched, int refusal) {
        List<Integer> got = lookedAt(x);
        List<Integer> want = lookedAt(untouched);
        if (refusal != 0) {
            int at = REFUSALS_AT - refusal - 1;
            want.set(at, want.get(at) + 1);
        }
        due("size of all behind " + call, got.size(), want.size());
        for (int i = 0; i < Math.min(got.size(), want.size()); i++) {
            due("at " + i + " of all behind " + call, got.get(i), want.get(i));
        }
    }
}
