import java.io.IOException;
import java.lang.reflect.InvocationTargetException;
import java.lang.reflect.Method;
import java.nio.file.Files;
import java.nio.file.Path;
import java.util.regex.Matcher;
import java.util.regex.Pattern;

/** README.md shows calls, each with its answer: they are called in their order on one object. */
public final class ReadmeTest {
    private static final Check CHECK = new Check("ReadmeTest");
    private static final Pattern SHOWN = Pattern.compile("place\\.(\\w+)\\((.*?)\\); *// (-?\\d+|true|false)\\b.*");

    public static void main(String[] args) throws IOException, ReflectiveOperationException {
        String readme = Files.readString(Path.of("README.md"));
        int begin = readme.indexOf("```java\n") + 8;
        GuessedPlace place = new GuessedPlace();
        for (String line : readme.substring(begin, readme.indexOf("```", begin)).split("\n")) {
            if (line.startsWith("place.")) {
                Matcher shown = SHOWN.matcher(line);
                CHECK.due("shows its answer: " + line, shown.matches(), true);
                CHECK.due(line, answer(place, shown.group(1), shown.group(2)).equals(shown.group(3)), true);
            }
        }
        everyCallIsNamed(readme);
        CHECK.finish();
    }

    private static String answer(GuessedPlace place, String name, String told)
            throws IllegalAccessException, InvocationTargetException {
        String[] words = told.isEmpty() ? new String[0] : told.split(", ");
        Object[] arguments = new Object[words.length];
        for (int i = 0; i < words.length; i++) {
            boolean isTruth = words[i].equals("true") || words[i].equals("false");
            arguments[i] = isTruth ? (Object) Boolean.valueOf(words[i]) : (Object) Integer.decode(words[i]);
        }
        for (Method method : GuessedPlace.class.getMethods()) {
            if (method.getName().equals(name)) {
                return String.valueOf(method.invoke(place, arguments));
            }
        }
        return "no such call";
    }

    private static void everyCallIsNamed(String readme) {
        for (Method method : GuessedPlace.class.getMethods()) {
            if (method.getDeclaringClass() == GuessedPlace.class) {
                CHECK.due("names " + method.getName(), readme.contains("`" + method.getName() + "`"), true);
            }
        }
    }
}
