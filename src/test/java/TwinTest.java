import java.util.ArrayList;
import java.util.List;
import java.util.Random;
import java.util.regex.Matcher;
import java.util.regex.Pattern;

/** Runs of calls drawn by seeds, answered by the class and by a second, slow writing of the document. */
public final class TwinTest {
    private static final int RUNS = 1900;
    /** An object is used for 512 calls: this leaves 72 for a lantern that is still told, 70 for the look at the end. */
    private static final int ASKED = 370;
    private static final int[] ODD = { Integer.MIN_VALUE, -65536, -256, -3, -2, -1, 0, 1, 2, 3, 4, 5, 6, 7, 8, 9, 10,
        11, 12, 15, 16, 17, 39, 40, 41, 63, 64, 98, 99, 100, 127, 128, 255, 256, 65535, 65536, Integer.MAX_VALUE };

    /** A slide as a table of cells, dark or not. */
    static final class TwinSlide {
        int kind;
        int figure;
        int price;
        int uses;
        boolean[][] painted = new boolean[4][4];

        TwinSlide copy() {
            TwinSlide s = new TwinSlide();
            s.kind = kind;
            s.figure = figure;
            s.price = price;
            s.uses = uses;
            for (int y = 0; y < 4; y++) s.painted[y] = painted[y].clone();
            return s;
        }

        boolean isDark(int x, int y) {
            switch (kind) {
                case 1: return painted[y][3 - x];
                case 2: return painted[3 - y][3 - x];
                case 3: return !painted[y][x];
                case 4: return isDarkCracked(x, y);
                case 5: return isDarkCracked(((x - figure) % 4 + 4) % 4, y);
                default: return painted[y][x];
            }
        }

        private boolean isDarkCracked(int x, int y) {
            return 4 * y + x != figure && painted[y][x];
        }

        int on(boolean turnedOver) {
            int bits = 0;
            for (int y = 0; y < 4; y++) {
                for (int x = 0; x < 4; x++) {
                    if (isDark(turnedOver ? 3 - x : x, y)) bits += 1 << 4 * y + x;
                }
            }
            return bits;
        }

        int paintedBits() {
            int bits = 0;
            for (int c = 0; c < 16; c++) if (painted[c / 4][c % 4]) bits += 1 << c;
            return bits;
        }
    }

    static final class World {
        List<TwinSlide> slides = new ArrayList<>();
        List<Integer> wanted = new ArrayList<>();
        int heat = 9;

        World copy() {
            World w = new World();
            for (TwinSlide s : slides) w.slides.add(s.copy());
            w.wanted.addAll(wanted);
            w.heat = heat;
            return w;
        }

        int n() {
            return slides.size();
        }

        boolean lacks(int set) {
            return set < 0 || set >= 1 << n();
        }

        int lay(int set, int over) {
            int shown = 0;
            for (int i = 0; i < n(); i++) {
                if ((set & 1 << i) != 0) shown |= slides.get(i).on((over & 1 << i) != 0);
            }
            return shown;
        }

        int project(int set) {
            int shown = lay(set, 0);
            for (int i = 0; i < n(); i++) {
                if ((set & 1 << i) == 0) continue;
                TwinSlide s = slides.get(i);
                if (s.uses < 99) s.uses++;
                int cell = s.uses % 16;
                if (s.uses % heat == 0) s.painted[cell / 4][cell % 4] = false;
            }
            return shown;
        }
    }

    /** The document once more, by trying out everything. */
    static final class Twin {
        static final String CELLS = "[.#]{16}";
        static final Pattern FORM = Pattern.compile("(s[0-9]{3,4}," + CELLS + ";|w" + CELLS + ";|h[0-9];)+");

        World now = new World();
        World kept;
        StringBuilder letters = new StringBuilder();
        List<Integer> row = new ArrayList<>();
        int[] refused = new int[7];

        int refuse(int number) {
            refused[-number]++;
            return number;
        }

        boolean noSlide(int i) {
            return i < 0 || i >= now.n();
        }

        int feed(int letter) {
            if (letter < 0) return refuse(-4);
            if (letter > 255 || letters.length() == 80) return refuse(-6);
            letters.append((char) letter);
            return letters.length();
        }

        int lantern() {
            String text = letters.toString();
            letters.setLength(0);
            for (int i = 0; i <= text.length(); i++) {
                Matcher m = FORM.matcher(text.substring(0, i));
                boolean whole = m.matches();
                if (!whole && !m.hitEnd()) return -1000 - (i - 1);
                if (i == text.length() && !whole) return -1000 - i;
            }
            World next = now.copy();
            int place = 0;
            int statements = 0;
            for (String s : text.split(";")) {
                if (!take(next, s)) return -2000 - place;
                place += s.length() + 1;
                statements++;
            }
            now = next;
            return statements;
        }

        private static boolean take(World w, String s) {
            if (s.charAt(0) == 'h') {
                w.heat = Integer.parseInt(s.substring(1));
                return w.heat >= 1;
            }
            String cells = s.substring(s.length() - 16);
            TwinSlide slide = new TwinSlide();
            for (int c = 0; c < 16; c++) slide.painted[c / 4][c % 4] = cells.charAt(c) == '#';
            if (s.charAt(0) == 'w') {
                w.wanted.add(slide.paintedBits());
                return w.wanted.size() <= 6;
            }
            slide.kind = s.charAt(1) - '0';
            slide.figure = s.charAt(2) - '0';
            slide.price = Integer.parseInt(s.substring(3, s.indexOf(',')));
            w.slides.add(slide);
            return slide.kind <= 5 && w.n() <= 8;
        }

        int slide(int i, int what) {
            if (noSlide(i)) return refuse(-1);
            TwinSlide s = now.slides.get(i);
            int[] all = { s.kind, s.figure, s.paintedBits(), s.on(false), s.price, s.uses };
            return what < 0 || what > 5 ? refuse(-2) : all[what];
        }

        int wanted(int i) {
            return i < 0 || i >= now.wanted.size() ? refuse(-1) : now.wanted.get(i);
        }

        int heat(int v) {
            if (v < 1) return refuse(-4);
            if (v > 9) return refuse(-6);
            int was = now.heat;
            now.heat = v;
            return was;
        }

        int price(int i, int v) {
            if (noSlide(i)) return refuse(-1);
            if (v < 0) return refuse(-4);
            if (v > 99) return refuse(-6);
            int was = now.slides.get(i).price;
            now.slides.get(i).price = v;
            return was;
        }

        int lay(int set, int over) {
            return now.lacks(set) || now.lacks(over) ? refuse(-1) : now.lay(set, over);
        }

        int project(int set) {
            if (now.lacks(set)) return refuse(-1);
            int size = Integer.bitCount(set);
            return size < 1 || size > 4 ? refuse(-3) : now.project(set);
        }

        /** 0 if the call is not refused. */
        int asked(int picture, int what, int most) {
            if (what < 0 || what > most) return refuse(-2);
            if (picture < 0) return refuse(-4);
            return picture > 65535 ? refuse(-6) : 0;
        }

        int gaps(int picture, int what) {
            int no = asked(picture, what, 1);
            if (no != 0) return no;
            boolean[] seen = new boolean[16];
            int clear = 0;
            int groups = 0;
            for (int c = 0; c < 16; c++) {
                int size = fill(picture, seen, c % 4, c / 4);
                clear += size;
                if (size > 0) groups++;
            }
            return what == 0 ? clear : groups;
        }

        private static int fill(int picture, boolean[] seen, int x, int y) {
            if (x < 0 || x > 3 || y < 0 || y > 3) return 0;
            int c = 4 * y + x;
            if (seen[c] || (picture >> c & 1) == 1) return 0;
            seen[c] = true;
            return 1 + fill(picture, seen, x - 1, y) + fill(picture, seen, x + 1, y)
                + fill(picture, seen, x, y - 1) + fill(picture, seen, x, y + 1);
        }

        int nearest(int picture, int what) {
            int no = asked(picture, what, 1);
            if (no != 0) return no;
            for (int unlike = 0; unlike <= 16; unlike++) {
                for (int i = 0; i < now.wanted.size(); i++) {
                    if (Integer.bitCount(now.wanted.get(i) ^ picture) == unlike) return what == 0 ? i : unlike;
                }
            }
            return -9;
        }

        int fewest(int picture, int what) {
            int no = asked(picture, what, 3);
            if (no != 0) return no;
            int[] best = { 9, 0, 0, 0 };
            for (int set = 0; set < 1 << now.n(); set++) {
                int size = Integer.bitCount(set);
                if (size > best[0]) continue;
                for (int over = 0; over <= set; over++) {
                    if ((over & ~set) != 0 || now.lay(set, over) != picture) continue;
                    if (size < best[0]) best = new int[] { size, set, over, 0 };
                    best[3]++;
                }
            }
            return best[3] == 0 ? -9 : best[what];
        }

        /** All that can be shown, each picture with the least price. */
        int[] leastPrices(int without) {
            int[] least = new int[65536];
            for (int i = 0; i < 65536; i++) least[i] = -9;
            for (int set = 0; set < 1 << now.n(); set++) {
                if (without >= 0 && (set >> without & 1) == 1) continue;
                int price = 0;
                for (int i = 0; i < now.n(); i++) if ((set >> i & 1) == 1) price += now.slides.get(i).price;
                for (int over = 0; over <= set; over++) {
                    if ((over & ~set) != 0) continue;
                    int shown = now.lay(set, over);
                    if (least[shown] < 0 || price < least[shown]) least[shown] = price;
                }
            }
            return least;
        }

        int cheapest(int picture) {
            int no = asked(picture, 0, 0);
            return no != 0 ? no : leastPrices(-1)[picture];
        }

        int near(int picture) {
            int no = asked(picture, 0, 0);
            if (no != 0) return no;
            int[] least = leastPrices(-1);
            int best = 16;
            for (int p = 0; p < 65536; p++) if (least[p] >= 0) best = Math.min(best, Integer.bitCount(p ^ picture));
            return best;
        }

        int canWithout(int slide) {
            int[] least = leastPrices(slide);
            int bits = 0;
            for (int i = 0; i < now.wanted.size(); i++) if (least[now.wanted.get(i)] >= 0) bits |= 1 << i;
            return bits;
        }

        int can(int slide) {
            return slide != -1 && noSlide(slide) ? refuse(-1) : canWithout(slide);
        }

        int worth(int slide) {
            if (noSlide(slide)) return refuse(-1);
            return Integer.bitCount(canWithout(-1)) - Integer.bitCount(canWithout(slide));
        }

        int sure(int set, int picture, int what) {
            if (now.lacks(set)) return refuse(-1);
            int no = asked(picture, what, 2);
            if (no != 0) return no;
            int known = now.lay(set, 0);
            int always = 65535;
            int ever = 0;
            int ways = 0;
            for (int p = 0; p < 65536; p++) {
                if ((p | known) != picture) continue;
                ways++;
                always &= p;
                ever |= p;
            }
            if (ways == 0) return -9;
            return what == 0 ? always : what == 1 ? 65535 - ever : ways;
        }

        int who(int set, int picture, int what) {
            if (now.lacks(set)) return refuse(-1);
            int no = asked(picture, what, 1);
            if (no != 0) return no;
            int bits = 0;
            int ways = 0;
            if (now.lay(set, 0) == picture) return 0;
            for (int i = 0; i < now.n(); i++) {
                for (int c = 0; c < 16; c++) {
                    int on = now.slides.get(i).on(false);
                    if ((set >> i & 1) == 0 || (on >> c & 1) == 0) continue;
                    if ((now.lay(set - (1 << i), 0) | on - (1 << c)) != picture) continue;
                    bits |= 1 << i;
                    ways++;
                }
            }
            return what == 0 ? bits : ways;
        }

        long dust(int set, int tenths, int part) {
            int no = 0;
            if (now.lacks(set)) no = refuse(-1);
            else if (part < 0 || part > 1) no = refuse(-2);
            else if (tenths < 0) no = refuse(-4);
            else if (tenths > 9) no = refuse(-6);
            if (no != 0) return 4000000000000000000L - no;
            long above = 1;
            long below = 1;
            for (int c = 0; c < 16; c++) {
                if ((now.lay(set, 0) >> c & 1) == 1) continue;
                above *= 10 - tenths;
                below *= 10;
            }
            long a = above;
            long b = below;
            while (b != 0) {
                long r = a % b;
                a = b;
                b = r;
            }
            return part == 0 ? above / a : below / a;
        }

        int round() {
            List<List<Integer>> sets = new ArrayList<>();
            for (int picture : now.wanted) {
                List<Integer> those = new ArrayList<>();
                for (int set = 0; set < 1 << now.n(); set++) if (now.lay(set, 0) == picture) those.add(set);
                if (!those.isEmpty()) sets.add(those);
            }
            if (sets.isEmpty() || sets.size() > 4) return -9;
            int[] start = new int[256];
            for (int set = 1; set < 256; set++) start[set] = 1000;
            return further(sets, 0, start);
        }

        /** The costs of the sets laid last, and the least cost of all orders of what is left. */
        private static int further(List<List<Integer>> sets, int done, int[] costs) {
            int best = 1000;
            if (done == (1 << sets.size()) - 1) {
                for (int c : costs) best = Math.min(best, c);
                return best;
            }
            for (int i = 0; i < sets.size(); i++) {
                if ((done >> i & 1) == 1) continue;
                int[] next = new int[256];
                for (int set = 0; set < 256; set++) next[set] = 1000;
                for (int to : sets.get(i)) {
                    for (int from = 0; from < 256; from++) {
                        next[to] = Math.min(next[to], costs[from] + Integer.bitCount(from ^ to));
                    }
                }
                best = Math.min(best, further(sets, done | 1 << i, next));
            }
            return best;
        }

        int row(int set) {
            if (set < 0) return refuse(-4);
            if (set > 255 || row.size() == 12) return refuse(-6);
            row.add(set);
            return row.size();
        }

        int judge() {
            World mind = now.copy();
            List<Integer> told = row;
            row = new ArrayList<>();
            for (int i = 0; i < told.size(); i++) {
                int set = told.get(i);
                if (set == 0 || mind.lacks(set) || Integer.bitCount(set) > 4) return i;
                if (!mind.wanted.contains(mind.project(set))) return i;
            }
            return -9;
        }

        int seeds(int n, int z) {
            if (n < 1) return refuse(-4);
            if (n > 40) return refuse(-6);
            if (now.n() == 0) return refuse(-3);
            World mind = now.copy();
            int dark = 0;
            for (int i = 0; i < n; i++) {
                int set = 0;
                for (int d = 0; d < 2; d++) {
                    z = z * 1103515245 + 12345;
                    long positive = z < 0 ? z + 2147483648L : z;
                    set |= 1 << positive / 65536 % mind.n();
                }
                dark += Integer.bitCount(mind.project(set));
            }
            return dark;
        }

        int image() {
            kept = now.copy();
            return now.n();
        }

        int restore() {
            if (kept == null) return refuse(-3);
            now = kept.copy();
            return now.n();
        }

        int count(int what) {
            int uses = 0;
            int prices = 0;
            for (TwinSlide s : now.slides) {
                uses += s.uses;
                prices += s.price;
            }
            int[] all = { now.n(), now.wanted.size(), now.heat, uses, prices, letters.length(), row.size() };
            if (what >= 0 && what <= 6) return all[what];
            return what >= 11 && what <= 16 ? refused[what - 10] : -9;
        }
    }

    private final SlidesOverSlides x = new SlidesOverSlides();
    private final Twin twin = new Twin();
    private final Random random;
    private final int seed;
    private int calls = 0;
    private int wrong = 0;
    private int density;

    private TwinTest(int seed) {
        this.seed = seed;
        random = new Random(seed);
        density = 1 + random.nextInt(9);
    }

    private void due(String call, long got, long want) {
        calls++;
        if (got == want) return;
        wrong++;
        if (wrong < 5) System.out.println("seed " + seed + ", call " + calls + ": " + call + " answered " + got
            + ", the twin " + want);
    }

    private int odd() {
        return ODD[random.nextInt(ODD.length)];
    }

    private int below(int n) {
        return random.nextInt(10) == 0 ? odd() : random.nextInt(n);
    }

    private int set() {
        int n = twin.now.n();
        return random.nextInt(12) == 0 ? odd() : random.nextInt(1 << n);
    }

    /** Mostly a picture near one that can be shown or is wanted. */
    private int picture() {
        int n = twin.now.n();
        int picture = twin.now.lay(random.nextInt(1 << n), random.nextInt(1 << n));
        switch (random.nextInt(8)) {
            case 0: return odd();
            case 1: return random.nextInt(65536);
            case 2: return picture ^ 1 << random.nextInt(16);
            case 3: return twin.now.wanted.isEmpty() ? picture : twin.now.wanted.get(0);
            default: return picture;
        }
    }

    private String cells(int bits) {
        StringBuilder text = new StringBuilder();
        for (int c = 0; c < 16; c++) text.append((bits >> c & 1) == 1 ? '#' : '.');
        return text.toString();
    }

    private int drawnCells() {
        int bits = 0;
        for (int c = 0; c < 16; c++) if (random.nextInt(12) < density) bits |= 1 << c;
        return bits;
    }

    private String statement() {
        int kind = random.nextInt(10);
        if (kind == 0) return "h" + random.nextInt(random.nextInt(4) == 0 ? 10 : 3) + ";";
        if (kind < 5) {
            int n = twin.now.n();
            int over = random.nextBoolean() ? 0 : random.nextInt(1 << n);
            int picture = random.nextInt(4) == 0 ? drawnCells() : twin.now.lay(random.nextInt(1 << n), over);
            return "w" + cells(picture) + ";";
        }
        String price = random.nextBoolean() ? "" + random.nextInt(100) : "0" + random.nextInt(10);
        return "s" + random.nextInt(random.nextInt(20) == 0 ? 10 : 6) + random.nextInt(10) + price + ","
            + cells(drawnCells()) + ";";
    }

    private void tellLantern() {
        StringBuilder text = new StringBuilder();
        int n = 1 + random.nextInt(3);
        for (int i = 0; i < n; i++) text.append(statement());
        if (random.nextInt(4) == 0) {
            int at = random.nextInt(text.length());
            String signs = "swh0129,.#;x:/";
            if (random.nextBoolean()) text.setCharAt(at, signs.charAt(random.nextInt(signs.length())));
            else if (random.nextBoolean()) text.deleteCharAt(at);
            else text.setLength(at);
        }
        for (int i = 0; i < text.length(); i++) {
            due("feed(" + (int) text.charAt(i) + ")", x.feed(text.charAt(i)), twin.feed(text.charAt(i)));
        }
        due("lantern() of " + text, x.lantern(), twin.lantern());
    }

    private void ask() {
        int a = set();
        int b = set();
        int p = picture();
        int what = random.nextInt(15) == 0 ? odd() : random.nextInt(4);
        int i = below(Math.max(1, twin.now.n()));
        int v = odd();
        switch (random.nextInt(30)) {
            case 0: case 1: tellLantern(); break;
            case 2: what = below(6); due("slide(" + i + ", " + what + ")", x.slide(i, what), twin.slide(i, what)); break;
            case 3: i = below(6); due("wanted(" + i + ")", x.wanted(i), twin.wanted(i)); break;
            case 4: due("heat(" + v + ")", x.heat(v), twin.heat(v)); break;
            case 5: v = below(100); due("price(" + i + ", " + v + ")", x.price(i, v), twin.price(i, v)); break;
            case 6: due("lay(" + a + ", " + b + ")", x.lay(a, b), twin.lay(a, b)); break;
            case 7: case 8: due("project(" + a + ")", x.project(a), twin.project(a)); break;
            case 9: due("gaps(" + p + ", " + what + ")", x.gaps(p, what), twin.gaps(p, what)); break;
            case 10: due("nearest(" + p + ", " + what + ")", x.nearest(p, what), twin.nearest(p, what)); break;
            case 11: case 12: due("fewest(" + p + ", " + what + ")", x.fewest(p, what), twin.fewest(p, what)); break;
            case 13: due("cheapest(" + p + ")", x.cheapest(p), twin.cheapest(p)); break;
            case 14: due("near(" + p + ")", x.near(p), twin.near(p)); break;
            case 15: i = random.nextBoolean() ? -1 : i; due("can(" + i + ")", x.can(i), twin.can(i)); break;
            case 16: due("worth(" + i + ")", x.worth(i), twin.worth(i)); break;
            case 17: due("sure(" + a + ", " + p + ", " + what + ")", x.sure(a, p, what), twin.sure(a, p, what)); break;
            case 18: askWho(a, p, what); break;
            case 19: what = below(2); v = below(10);
                due("dust(" + a + ", " + v + ", " + what + ")", x.dust(a, v, what), twin.dust(a, v, what)); break;
            case 20: case 21: due("round()", x.round(), twin.round()); break;
            case 22: case 23: case 24: due("row(" + a + ")", x.row(a), twin.row(a)); break;
            case 25: due("judge()", x.judge(), twin.judge()); break;
            case 26: i = below(40); v = random.nextInt(); due("seeds(" + i + ", " + v + ")", x.seeds(i, v), twin.seeds(i, v)); break;
            case 27: if (random.nextInt(4) == 0) due("image()", x.image(), twin.image()); break;
            case 28: if (random.nextInt(6) == 0) due("restore()", x.restore(), twin.restore()); break;
            default: what = random.nextInt(19) - 1; due("count(" + what + ")", x.count(what), twin.count(what)); break;
        }
    }

    private void askWho(int set, int picture, int what) {
        int p = picture;
        if (!twin.now.lacks(set) && random.nextInt(3) > 0) p = twin.now.lay(set, 0) & ~(1 << random.nextInt(16));
        due("who(" + set + ", " + p + ", " + what + ")", x.who(set, p, what), twin.who(set, p, what));
    }

    private void endsAlike() {
        for (int what = 0; what <= 16; what++) due("at the end count(" + what + ")", x.count(what), twin.count(what));
        for (int i = 0; i < twin.now.n(); i++) {
            for (int what = 0; what <= 5; what++) due("at the end slide", x.slide(i, what), twin.slide(i, what));
        }
    }

    public static void main(String[] args) {
        int wrong = 0;
        long calls = 0;
        for (int seed = 1; seed <= RUNS; seed++) {
            TwinTest run = new TwinTest(seed);
            for (int i = 0; i < 3; i++) run.tellLantern();
            while (run.calls < ASKED) run.ask();
            run.endsAlike();
            wrong += run.wrong;
            calls += run.calls;
        }
        System.out.println(calls + " calls asked of both, " + wrong + " answers unlike");
        if (wrong != 0) System.exit(1);
    }
}
