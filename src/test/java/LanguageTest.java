import java.lang.reflect.Constructor;
import java.lang.reflect.Field;
import java.lang.reflect.Member;
import java.lang.reflect.Method;
import java.lang.reflect.Modifier;
import java.nio.charset.StandardCharsets;
import java.nio.file.Files;
import java.nio.file.Path;
import java.util.Set;
import java.util.TreeSet;
import java.util.regex.Matcher;
import java.util.regex.Pattern;

/** The face of the document, and those rules of LANGUAGE.md that can be seen in the text or in the classes. */
final class LanguageTest {
    private static final String[] FACE = {
        "int write(int)", "int wipe()", "int fault()", "int jury()", "int juror(int,int)", "int hour()",
        "int argue(int)", "int feed(int)", "int die(int)", "int toss(int)", "int undo()", "int ahead(int)",
        "int end(int)", "int gives(int)", "int toFeed(int)", "int strike(int)", "int toMove(int,boolean)",
        "int judge(int,int)", "int see(int,int,int)", "int unsee()", "int first(int)", "int share(int,boolean)",
        "int rests(int,int,int)", "int coins(int,int,boolean)", "long seed(long)", "int assizes(int)",
        "int keep(int)", "int again(int)", "int count(int)"};

    /** What the interface says ahead of its calls, each ahead of the first call that it is said of. */
    private static final String[][] AHEAD = {
        {"the jury", "write"}, {"acts", "hour"}, {"verdicts", "ahead"}, {"seen", "see"},
        {"shares, rests, chances", "share"}, {"slots", "keep"}};

    private static final String[] CONSTANTS = {"UNKNOWN", "OUTSIDE", "STATE", "FULL", "NONE"};

    private static String told(Method m) {
        StringBuilder told = new StringBuilder(m.getReturnType() + " " + m.getName() + "(");
        for (Class<?> type : m.getParameterTypes()) {
            told.append(told.charAt(told.length() - 1) == '(' ? "" : ",").append(type);
        }
        return told.append(')').toString();
    }

    private static boolean isPrivate(Member m) {
        return Modifier.isPrivate(m.getModifiers());
    }

    private static void face() {
        Class<?> c = HungryJury.class;
        Due.is("public and final", c.getModifiers(), Modifier.PUBLIC | Modifier.FINAL);
        Set<String> methods = new TreeSet<>();
        for (Method m : c.getDeclaredMethods()) {
            if (!isPrivate(m)) {
                methods.add(told(m));
                Due.is("modifiers of " + m.getName(), m.getModifiers(), Modifier.PUBLIC);
            }
        }
        Due.same("methods", methods.toString(), new TreeSet<>(Set.of(FACE)).toString());
        Set<String> fields = new TreeSet<>();
        for (Field f : c.getDeclaredFields()) {
            if (!isPrivate(f)) {
                fields.add(f.getName());
                Due.is("modifiers of " + f.getName(), f.getModifiers(),
                    Modifier.PUBLIC | Modifier.STATIC | Modifier.FINAL);
                Due.that(f.getName() + " is an int", f.getType() == int.class);
            }
        }
        Due.same("constants", fields.toString(), new TreeSet<>(Set.of(CONSTANTS)).toString());
        Constructor<?>[] constructors = c.getDeclaredConstructors();
        Due.is("constructors", constructors.length, 1);
        Due.is("constructor is public", constructors[0].getModifiers(), Modifier.PUBLIC);
    }

    private static void inside(Class<?> c, Set<String> publicNames) {
        int own = 0;
        for (Field f : c.getDeclaredFields()) {
            boolean isStatic = Modifier.isStatic(f.getModifiers());
            own += isStatic ? 0 : 1;
            Due.that("static " + f.getName() + " is final", !isStatic || Modifier.isFinal(f.getModifiers()));
        }
        Due.that("fields of " + c.getName(), own <= 20);
        for (Method m : c.getDeclaredMethods()) {
            boolean isFace = c == HungryJury.class && Modifier.isPublic(m.getModifiers());
            Due.that("name of " + m.getName() + " in " + c.getName(), isFace || !publicNames.contains(m.getName()));
            Due.that("parameters of " + m.getName(), m.getParameterCount() <= 7);
        }
    }

    private static void classes() {
        Set<String> publicNames = new TreeSet<>();
        for (String method : FACE) {
            publicNames.add(method.substring(method.indexOf(' ') + 1, method.indexOf('(')));
        }
        inside(HungryJury.class, publicNames);
        Class<?>[] inner = HungryJury.class.getDeclaredClasses();
        Due.that("classes", inner.length < 12);
        for (Class<?> c : inner) {
            Due.that(c.getName() + " is static and not public",
                Modifier.isStatic(c.getModifiers()) && !Modifier.isPublic(c.getModifiers()));
            inside(c, publicNames);
        }
    }

    private static void order(String text) {
        int heading = 0;
        int before = -1;
        for (String method : FACE) {
            String name = method.substring(method.indexOf(' ') + 1, method.indexOf('('));
            int at = text.indexOf("\n    public " + method.substring(0, method.indexOf('(') + 1));
            Due.that(name + " stands behind the call ahead of it", at > before);
            if (heading < AHEAD.length && AHEAD[heading][1].equals(name)) {
                int said = text.indexOf("// ---- " + AHEAD[heading][0] + "\n");
                Due.that(AHEAD[heading][0] + " is said ahead of " + name, said > before && said < at);
                heading++;
            }
            before = at;
        }
        Due.is("what is said ahead of calls", heading, AHEAD.length);
    }

    private static void words(String source) {
        String[] forbidden = {"\\bthrows?\\b", "\\btry\\b", "\\bcatch\\b", "\\bsynchronized\\b", "\\bassert\\b",
            "\\bimport\\b", "\\bpackage\\b", "->", "::", "\\bSystem\\b", "\\bRandom\\b", "\\bThread\\b", "Exact\\b",
            "\\bdouble\\b", "\\bfloat\\b", "\\bvolatile\\b", "\\bequals\\b", "\\bhashCode\\b", "\\btoString\\b"};
        for (String word : forbidden) {
            Due.that("without " + word, !Pattern.compile(word).matcher(source).find());
        }
        for (int i = 0; i < source.length(); i++) {
            char c = source.charAt(i);
            Due.that("sign " + (int) c, c == '\n' || c >= 32 && c < 127);
        }
    }

    /** Nothing is made but in constructors and in what a field or a constant begins with. */
    private static void nothingMadeInCalls(String source) {
        Matcher made = Pattern.compile("(?m)^(.*)\\bnew\\b.*$").matcher(source);
        while (made.find()) {
            String line = made.group().trim();
            Due.that("made in " + line, line.startsWith("private final") || line.startsWith("final")
                || line.startsWith("slots[i] = new Room") || line.startsWith("before[i] = new Room"));
        }
    }

    private static void lengths(String source) {
        String[] lines = source.split("\n");
        int start = 0;
        for (int i = 0; i < lines.length; i++) {
            if (lines[i].endsWith(") {") && !lines[i].trim().startsWith("}") && lines[i].contains(" ")
                && lines[i].matches(" {4}(    )?\\w.*")) {
                start = i;
            }
            if (lines[i].matches(" {4}(    )?}")) {
                Due.that("method at line " + (start + 1), i - start < 60);
            }
        }
    }

    public static void main(String[] args) throws Exception {
        String text = Files.readString(Path.of("src/main/java/HungryJury.java"), StandardCharsets.UTF_8);
        String source = text.replaceAll("(?s)/\\*.*?\\*/", "").replaceAll("//[^\n]*", "");
        face();
        classes();
        order(text);
        words(source);
        nothingMadeInCalls(source);
        lengths(source);
        Due.finish();
    }
}
