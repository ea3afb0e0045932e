import java.io.IOException;
import java.lang.reflect.Constructor;
import java.lang.reflect.Field;
import java.lang.reflect.Member;
import java.lang.reflect.Method;
import java.lang.reflect.Modifier;
import java.nio.file.Files;
import java.nio.file.Path;
import java.util.ArrayList;
import java.util.Arrays;
import java.util.List;
import java.util.Set;
import java.util.TreeSet;
import java.util.regex.Matcher;
import java.util.regex.Pattern;

/** The rules of LANGUAGE.md that can be looked at, and the document's public face. */
public final class LanguageTest {
    private static final Check CHECK = new Check("LanguageTest");
    private static final String[] FACE = {"int feed(int,int,int,int,int)", "boolean end(int)", "int text()",
        "int fault(int)", "boolean set(int,int)", "int insert(int)", "int remove(int)", "int undo(boolean)",
        "int build()", "int count(int)", "int key(int)", "int rank(int)", "long range(int,int,int)",
        "int piece(int,int,int)", "int guess(int,int,int)", "int seek(int,int)", "int pages(int)",
        "int errors(int,int)", "int bestSlack(int)", "int lay()", "int put(int)", "int cell(int)", "int poison(int)",
        "boolean passes(int,boolean)", "int falses(int,int,boolean)", "int point(int,int)", "int box(int,int,int,int)",
        "int boxed(int,int)", "int bestOrder()", "boolean image(boolean)", "int look(int)"};
    private static final String[] FORBIDDEN = {"throw", "try", "catch", "synchronized", "assert", "->", "::",
        "Exact", "hashCode", "toString", "Random", "Thread", "nanoTime", "currentTimeMillis", "import static", "package",
        "String[", "Object", "HashMap", "System.out", "@Override"};

    /** What rule 4 names, and the functions of Math, Integer and Long over int and long that are used. */
    private static final Set<String> LIBRARY = Set.of("System.arraycopy(", "Arrays.fill(", "Arrays.copyOf(",
        "Arrays.copyOfRange(", "Math.max(", "Math.min(", "Math.abs(", "Math.floorDiv(", "Math.floorMod(",
        "Integer.compare(", "Integer.bitCount(", "Long.compare(", "Long.bitCount(");

    public static void main(String[] args) throws IOException {
        face();
        members();
        source(Files.readString(Path.of("src/main/java/GuessedPlace.java")));
        CHECK.finish();
    }

    private static void face() {
        Set<String> face = new TreeSet<>();
        for (Method m : GuessedPlace.class.getDeclaredMethods()) {
            if (!Modifier.isPrivate(m.getModifiers()) && !m.isSynthetic()) {
                List<String> types = new ArrayList<>();
                for (Class<?> type : m.getParameterTypes()) {
                    types.add(type.getSimpleName());
                }
                face.add(m.getReturnType().getSimpleName() + " " + m.getName() + "(" + String.join(",", types) + ")");
                CHECK.due(m.getName() + " is public", m.getModifiers(), Modifier.PUBLIC);
            }
        }
        CHECK.due("the face: " + face, face.equals(new TreeSet<>(Arrays.asList(FACE))), true);
        CHECK.due("public and final", GuessedPlace.class.getModifiers(), Modifier.PUBLIC | Modifier.FINAL);
        Constructor<?>[] constructors = GuessedPlace.class.getDeclaredConstructors();
        CHECK.due("one constructor", constructors.length, 1);
        CHECK.due("it is public", constructors[0].getModifiers(), Modifier.PUBLIC);
    }

    private static void members() {
        Set<String> publicNames = new TreeSet<>();
        for (String method : FACE) {
            publicNames.add(method.substring(method.indexOf(' ') + 1, method.indexOf('(')));
        }
        List<Class<?>> classes = new ArrayList<>(Arrays.asList(GuessedPlace.class.getDeclaredClasses()));
        for (Class<?> c : classes) {
            CHECK.due(c + " is static", Modifier.isStatic(c.getModifiers()), true);
            CHECK.due(c + " has no classes", c.getDeclaredClasses().length, 0);
        }
        classes.add(GuessedPlace.class);
        CHECK.due("at most twelve classes", classes.size() <= 12, true);
        for (Class<?> c : classes) {
            int fields = 0;
            for (Field f : c.getDeclaredFields()) {
                boolean isStatic = Modifier.isStatic(f.getModifiers());
                fields += isStatic ? 0 : 1;
                CHECK.due(f + " is final if static", !isStatic || Modifier.isFinal(f.getModifiers()), true);
                CHECK.due(f + " is hidden", c != GuessedPlace.class || isHidden(f) || f.getName().equals("NONE"), true);
            }
            CHECK.due(c + " has at most twenty fields", fields <= 20, true);
            for (Method m : c.getDeclaredMethods()) {
                CHECK.due(m + " takes at most seven", m.getParameterCount() <= 7, true);
                boolean isFace = c == GuessedPlace.class && !isHidden(m);
                CHECK.due(m + " bears a name of its own", isFace || !publicNames.contains(m.getName()), true);
            }
        }
    }

    private static boolean isHidden(Member member) {
        return Modifier.isPrivate(member.getModifiers());
    }

    private static void source(String text) {
        for (char c : text.toCharArray()) {
            if (c > 126) {
                CHECK.due("a sign beyond 126", c, 0);
            }
        }
        String code = text.replaceAll("(?s)/\\*.*?\\*/", "").replaceAll("//[^\n]*", "");
        for (String word : FORBIDDEN) {
            Pattern pattern = Pattern.compile(Character.isLetter(word.charAt(0)) ? "\\b" + Pattern.quote(word) : word);
            CHECK.due("uses of " + word, pattern.matcher(code).results().count(), 0);
        }
        Matcher imports = Pattern.compile("import ([^;]*);").matcher(code);
        while (imports.find()) {
            CHECK.due("import " + imports.group(1), imports.group(1).matches("java\\.util\\.(Arrays|ArrayList|List)"), true);
        }
        library(code);
        methodLengths(code);
    }

    /** Functions alone, so that a constant such as the greatest int, which rule 4 does not name, is found. */
    private static void library(String code) {
        Matcher uses = Pattern.compile("\\b(System|Arrays|Math|Integer|Long|String|Character)\\.\\w+\\(?").matcher(code);
        while (uses.find()) {
            CHECK.due("use of " + uses.group(), LIBRARY.contains(uses.group()), true);
        }
    }

    private static void methodLengths(String code) {
        int begun = 0;
        String[] lines = code.split("\n");
        for (int i = 0; i < lines.length; i++) {
            if (lines[i].matches(" {4,8}[a-z].*\\) \\{")) {
                begun = i;
            }
            if (lines[i].matches(" {4,8}\\}")) {
                CHECK.due("lines of" + lines[begun], i - begun <= 60 || lines[begun].contains("class"), true);
            }
        }
    }
}
