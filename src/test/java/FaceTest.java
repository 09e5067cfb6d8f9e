import java.io.IOException;
import java.lang.reflect.Constructor;
import java.lang.reflect.Field;
import java.lang.reflect.Method;
import java.lang.reflect.Modifier;
import java.nio.file.Files;
import java.nio.file.Path;
import java.util.Arrays;
import java.util.Set;
import java.util.TreeSet;
import java.util.regex.Matcher;
import java.util.regex.Pattern;

/** The public face, and the rules of LANGUAGE.md that can be seen from the class and its text. */
public final class FaceTest {
    private static final Path SOURCE = Path.of("src/main/java/TippingBeam.java");

    private static final String[] FACE = {
        "lay(int,int)", "push(int,boolean)", "play(int)", "setBag(int,int,int)", "set(int,int)",
        "setUp(int,int)", "begin()", "type(char)", "clearText()", "perform()", "stopped(int)",
        "undo()", "keep()", "restore()", "at(int,int)", "bag(int,int)", "reason(int,int)",
        "possible(int)", "look(int)", "best(int)", "levels(int)", "made(int,int)", "count(int)"};
    private static final String[] CONSTANTS = {
        "UNKNOWN -10001", "BAD_VALUE -10002", "FULL -10003", "NOT_POSSIBLE -10004", "NONE -10005",
        "NO_MOVE -10010"};

    private static final String[] FORBIDDEN = {
        "\\b(throw|throws|try|catch|finally|synchronized|assert|import|package|protected|volatile|native)\\b",
        "->", "::", "Exact\\(", "@Override", "\\bnew Object\\b", "\\bequals\\b",
        "\\bhashCode\\b", "\\btoString\\b", "\\bstatic\\s*\\{", "\\bSystem\\.(?!arraycopy)", "\\bRandom\\b",
        "\\bThread\\b", "\\bwhile\\s*\\(\\s*true\\s*\\)", "\\bfor\\s*\\(\\s*;", "\"\\s*\\+|\\+\\s*\""};

    private static final int MOST_LINES = 60;

    private static final Check CHECK = new Check();

    public static void main(String[] args) throws IOException, IllegalAccessException {
        face();
        membersInside();
        String source = withoutComments(Files.readString(SOURCE));
        objectsMade(source);
        text(source);
        lengthOfMethods(source);
        CHECK.end("FaceTest");
    }

    private static void holds(String what, boolean holds) {
        CHECK.due(what, holds ? 1 : 0, 1);
    }

    private static void face() throws IllegalAccessException {
        Class<?> c = TippingBeam.class;
        holds("a class of its own", c.getSuperclass() == Object.class && c.getInterfaces().length == 0
                && c.getPackageName().isEmpty());
        holds("public and final", Modifier.isPublic(c.getModifiers()) && Modifier.isFinal(c.getModifiers()));
        Set<String> shown = new TreeSet<>();
        for (Method m : c.getDeclaredMethods()) {
            if (!Modifier.isPrivate(m.getModifiers())) {
                holds(m + " answers an int", m.getReturnType() == int.class);
                holds(m + " is public, not static", m.getModifiers() == Modifier.PUBLIC);
                shown.add(m.getName() + Arrays.toString(Arrays.stream(m.getParameterTypes())
                        .map(Class::getName).toArray()).replace(" ", "").replace('[', '(').replace(']', ')'));
            }
        }
        holds("the methods are " + shown, shown.equals(new TreeSet<>(Arrays.asList(FACE))));
        shown.clear();
        for (Field f : c.getDeclaredFields()) {
            if (!Modifier.isPrivate(f.getModifiers())) {
                holds(f + " is a constant", f.getModifiers() == (Modifier.PUBLIC | Modifier.STATIC | Modifier.FINAL));
                holds(f + " is an int", f.getType() == int.class);
                shown.add(f.getName() + " " + f.get(null));
            }
        }
        holds("the constants are " + shown, shown.equals(new TreeSet<>(Arrays.asList(CONSTANTS))));
        Constructor<?>[] constructors = c.getDeclaredConstructors();
        holds("one public constructor", constructors.length == 1 && constructors[0].getParameterCount() == 0
                && constructors[0].getModifiers() == Modifier.PUBLIC);
    }

    private static void membersInside() {
        Set<String> names = new TreeSet<>();
        for (String method : FACE) {
            names.add(method.substring(0, method.indexOf('(')));
        }
        holds("few classes", TippingBeam.class.getDeclaredClasses().length < 12);
        for (Class<?> c : TippingBeam.class.getDeclaredClasses()) {
            holds(c + " is static", Modifier.isStatic(c.getModifiers()));
            holds(c + " is not shown", !Modifier.isPublic(c.getModifiers()) && !Modifier.isProtected(c.getModifiers()));
            for (Method m : c.getDeclaredMethods()) {
                holds(m + " bears a name of its own", !names.contains(m.getName()));
                holds(m + " has few parameters", m.getParameterCount() <= 7);
            }
            long fields = Arrays.stream(c.getDeclaredFields()).filter(f -> !Modifier.isStatic(f.getModifiers())).count();
            holds(c + " has few fields", fields <= 20);
            for (Field f : c.getDeclaredFields()) {
                holds(f + " is final if static", !Modifier.isStatic(f.getModifiers()) || Modifier.isFinal(f.getModifiers()));
            }
        }
        for (Method m : TippingBeam.class.getDeclaredMethods()) {
            holds(m + " bears a name of its own", !Modifier.isPrivate(m.getModifiers()) || !names.contains(m.getName()));
        }
    }

    /** Objects are made where a TippingBeam is made, and nowhere else: no call makes one. */
    private static void objectsMade(String source) {
        Matcher made = Pattern.compile("\\bnew \\w+[\\[(]").matcher(source);
        int places = 0;
        while (made.find()) {
            places++;
        }
        // Five of the constructor, five rows of a state, the history's two, three of the text.
        CHECK.due("places that make objects", places, 15);
    }

    private static void text(String source) {
        for (String forbidden : FORBIDDEN) {
            Matcher m = Pattern.compile(forbidden).matcher(source);
            holds("no " + forbidden, !m.find());
        }
        holds("signs up to 126", source.chars().allMatch(c -> c == '\n' || (c >= 32 && c <= 126)));
    }

    private static void lengthOfMethods(String source) {
        int length = 0;
        for (String line : source.split("\n")) {
            boolean begins = line.matches(" {4}(?: {4})?\\w.*\\) \\{");
            length = begins ? 1 : length + 1;
            if (length == MOST_LINES + 1 && line.startsWith("        ")) {
                holds("a short method, up to: " + line, false);
            }
            if (line.matches(" {4}(?: {4})?\\}")) {
                length = 0;
            }
        }
    }

    private static String withoutComments(String source) {
        return source.replaceAll("(?s)/\\*.*?\\*/", "").replaceAll("//[^\n]*", "");
    }
}
