import java.lang.reflect.Constructor;
import java.lang.reflect.Executable;
import java.lang.reflect.Field;
import java.lang.reflect.Method;
import java.lang.reflect.Modifier;
import java.nio.charset.StandardCharsets;
import java.nio.file.Files;
import java.nio.file.Path;
import java.util.ArrayList;
import java.util.HashSet;
import java.util.List;
import java.util.Set;
import java.util.TreeSet;
import java.util.regex.Matcher;
import java.util.regex.Pattern;

/** The face of the class, and the rules of LANGUAGE.md that a program can look at. */
public final class RulesTest {
    private static final Path SOURCE = Path.of("src/main/java/SlidesOverSlides.java");
    private static final String[] FACE = { "feed(int)int", "lantern()int", "slide(int,int)int", "wanted(int)int",
        "heat(int)int", "price(int,int)int", "lay(int,int)int", "project(int)int", "gaps(int,int)int",
        "nearest(int,int)int", "fewest(int,int)int", "cheapest(int)int", "near(int)int", "can(int)int",
        "worth(int)int", "sure(int,int,int)int", "who(int,int,int)int", "dust(int,int,int)long", "round()int",
        "row(int)int", "judge()int", "seeds(int,int)int", "image()int", "restore()int", "count(int)int" };
    private static final String[] FORBIDDEN = { "\\bthrow\\b", "\\bthrows\\b", "\\btry\\b", "\\bcatch\\b",
        "\\bsynchronized\\b", "\\bassert\\b", "\\bimport\\b", "\\bpackage\\b", "->", "::", "\\bstatic\\s*\\{",
        "\\bSystem\\b(?!\\.arraycopy)", "\\bObject\\b", "\\bThread\\b", "\\bRandom\\b", "Exact\\b", "\\bequals\\b",
        "\\bhashCode\\b", "\\btoString\\b", "\\bvar\\b", "\\bprotected\\b", "@" };
    private static final int MOST_LINES = 60;

    private static int wrong = 0;
    private static int looked = 0;

    private static void must(boolean holds, String what) {
        looked++;
        if (holds) return;
        wrong++;
        System.out.println("rule broken: " + what);
    }

    private static String told(Method m) {
        StringBuilder text = new StringBuilder(m.getName()).append('(');
        for (Class<?> type : m.getParameterTypes()) text.append(text.charAt(text.length() - 1) == '(' ? "" : ",").append(type);
        return text.append(')').append(m.getReturnType()).toString();
    }

    private static void face(Class<?> c) {
        must(Modifier.isPublic(c.getModifiers()) && Modifier.isFinal(c.getModifiers()), "1: public and final");
        Set<String> open = new TreeSet<>();
        for (Method m : c.getDeclaredMethods()) {
            if (!Modifier.isPrivate(m.getModifiers())) open.add(told(m));
        }
        must(open.equals(new TreeSet<>(List.of(FACE))), "1: the face is " + open);
        Constructor<?>[] constructors = c.getDeclaredConstructors();
        must(constructors.length == 1 && Modifier.isPublic(constructors[0].getModifiers())
            && constructors[0].getParameterCount() == 0, "1: one public constructor");
        for (Field f : c.getDeclaredFields()) must(Modifier.isPrivate(f.getModifiers()), "1: private " + f);
    }

    private static void oneClass(Class<?> c, Set<String> names) {
        int fields = 0;
        for (Field f : c.getDeclaredFields()) {
            boolean isStatic = Modifier.isStatic(f.getModifiers());
            if (!isStatic) fields++;
            must(!isStatic || Modifier.isFinal(f.getModifiers()), "5: final " + f);
        }
        must(fields <= 20, "11: fields of " + c);
        List<Executable> all = new ArrayList<>(List.of(c.getDeclaredMethods()));
        all.addAll(List.of(c.getDeclaredConstructors()));
        for (Executable e : all) must(e.getParameterCount() <= 7, "11: parameters of " + e);
        for (Method m : c.getDeclaredMethods()) {
            boolean isFace = c == SlidesOverSlides.class && Modifier.isPublic(m.getModifiers());
            must(isFace || !names.contains(m.getName()), "1: the name of " + m);
        }
    }

    private static void nested(Class<?> c) {
        must(Modifier.isStatic(c.getModifiers()), "2: static " + c);
        must(!Modifier.isPublic(c.getModifiers()) && !Modifier.isProtected(c.getModifiers()), "1: open " + c);
        must(!c.isAnonymousClass() && !c.isLocalClass(), "2: local " + c);
        must(c.getDeclaredClasses().length == 0, "2: inside of " + c);
    }

    /** The source without comments, texts and signs, with the same lines. */
    private static String bare(String source) {
        Matcher m = Pattern.compile("/\\*.*?\\*/|//[^\\n]*|\"(?:\\\\.|[^\"\\\\])*\"|'(?:\\\\.|[^'\\\\])'", Pattern.DOTALL)
            .matcher(source);
        return m.replaceAll(found -> found.group().replaceAll("[^\\n]", " "));
    }

    private static void words(String bare) {
        for (String word : FORBIDDEN) must(!Pattern.compile(word).matcher(bare).find(), "4, 6, 13: the source has " + word);
        must(!Pattern.compile("\\bnew\\s+\\w+\\s*\\([^;]*\\)\\s*\\{").matcher(bare).find(), "2: anonymous class");
        must(!bare.contains("while (true)") && !bare.contains("for (;;)"), "9: a loop without an end");
    }

    /** A method begins at a line that ends in ") {" and stands four or eight signs in. */
    private static void lengths(String bare) {
        String[] lines = bare.split("\n", -1);
        Pattern head = Pattern.compile("^( {4}| {8})(?! )(?!if|for|while|switch|else|return)[^;=]*\\) \\{\\s*$");
        for (int i = 0; i < lines.length; i++) {
            Matcher m = head.matcher(lines[i]);
            if (!m.matches()) continue;
            int end = i;
            while (end < lines.length && !lines[end].equals(m.group(1) + "}")) end++;
            must(end - i < MOST_LINES, "11: length of " + lines[i].trim());
        }
    }

    public static void main(String[] args) throws Exception {
        Class<?> c = SlidesOverSlides.class;
        face(c);
        Set<String> names = new HashSet<>();
        for (String told : FACE) names.add(told.substring(0, told.indexOf('(')));
        oneClass(c, names);
        must(c.getDeclaredClasses().length + 1 <= 12, "11: classes");
        for (Class<?> inside : c.getDeclaredClasses()) {
            nested(inside);
            oneClass(inside, names);
        }
        String source = Files.readString(SOURCE, StandardCharsets.ISO_8859_1);
        for (int i = 0; i < source.length(); i++) {
            if (source.charAt(i) > 127) must(false, "3: sign " + (int) source.charAt(i));
        }
        String bare = bare(source);
        words(bare);
        lengths(bare);
        System.out.println(looked + " rules looked at, " + wrong + " broken");
        if (wrong != 0) System.exit(1);
    }
}
