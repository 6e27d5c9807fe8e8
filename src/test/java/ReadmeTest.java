import java.io.IOException;
import java.lang.reflect.Method;
import java.lang.reflect.Modifier;
import java.nio.file.Files;
import java.nio.file.Path;
import java.util.TreeSet;
import java.util.regex.Matcher;
import java.util.regex.Pattern;

/** README.md shows calls with their answers: they are called here in its order, and it has to show every method. */
public final class ReadmeTest {
    private static final Path PAGE = Path.of("README.md");
    private static final Pattern MAKING = Pattern.compile("new GainsaidOnce\\(\\)");
    private static final Pattern TEXT = Pattern.compile("String text = \"([^\"]*)\";");
    private static final Pattern CALL = Pattern.compile("^x\\.(\\w+)\\(([^)]*)\\);\\s*// (-?\\w+)");

    private static final Check check = new Check("ReadmeTest");

    public static void main(String[] args) throws IOException, ReflectiveOperationException {
        GainsaidOnce x = new GainsaidOnce();
        TreeSet<String> shown = new TreeSet<>();
        for (String line : Files.readAllLines(PAGE)) {
            Matcher text = TEXT.matcher(line);
            Matcher call = CALL.matcher(line);
            if (MAKING.matcher(line).find()) {
                x = new GainsaidOnce();
            } else if (text.find()) {
                Check.feed(x, text.group(1));
                shown.add("feed");
            } else if (call.find()) {
                String told = call.group(1) + "(" + call.group(2) + ")";
                check.due(told, answer(x, call.group(1), call.group(2)), number(call.group(3)));
                shown.add(call.group(1));
            }
        }
        check.holds("every method is shown: " + shown, shown.equals(face()));
        check.end();
    }

    private static TreeSet<String> face() {
        TreeSet<String> names = new TreeSet<>();
        for (Method m : GainsaidOnce.class.getDeclaredMethods()) {
            if (Modifier.isPublic(m.getModifiers())) {
                names.add(m.getName());
            }
        }
        return names;
    }

    private static int answer(GainsaidOnce x, String name, String told) throws ReflectiveOperationException {
        String[] words = told.isEmpty() ? new String[0] : told.split(", ");
        for (Method m : GainsaidOnce.class.getDeclaredMethods()) {
            if (m.getName().equals(name) && m.getParameterCount() == words.length) {
                Object[] values = new Object[words.length];
                for (int i = 0; i < words.length; i++) {
                    boolean isNumber = m.getParameterTypes()[i] == int.class;
                    values[i] = isNumber ? (Object) Integer.valueOf(words[i]) : (Object) Boolean.valueOf(words[i]);
                }
                return (Integer) m.invoke(x, values);
            }
        }
        throw new NoSuchMethodException(name + " of " + words.length);
    }

    private static int number(String told) throws ReflectiveOperationException {
        boolean isName = Character.isLetter(told.charAt(0));
        return isName ? GainsaidOnce.class.getField(told).getInt(null) : Integer.parseInt(told);
    }
}
