import java.io.IOException;
import java.lang.management.ManagementFactory;
import java.lang.reflect.Constructor;
import java.lang.reflect.Field;
import java.lang.reflect.Method;
import java.lang.reflect.Modifier;
import java.nio.file.Files;
import java.nio.file.Path;
import java.util.ArrayList;
import java.util.Arrays;
import java.util.List;
import java.util.TreeSet;
import java.util.regex.Matcher;
import java.util.regex.Pattern;

/** The face of the class, and the rules of LANGUAGE.md that can be seen by looking. */
public final class FormTest {
    private static final Path SOURCE = Path.of("src/main/java/GainsaidOnce.java");
    private static final String[] FACE = {
        "feed(int)", "town()", "fault()", "told(int)", "hearer(int,int)", "corner(int,int)", "cry(int,int,int)",
        "month()", "keepIn(int,boolean)", "move(int,int)", "cold(int,boolean)", "drift(int)", "undo(int)",
        "would(int,int,int,int)", "bestRound(int,int,int)", "began(int,int,int,int)", "passed()",
        "hired(int,int,int,int)", "spoilt(int,int,int,int)", "odds(int,int)", "see(int,int,int)", "behind(int)",
        "write(int)", "judge()", "tear()", "seed(int)", "keep(int)", "goBack(int)"};
    private static final String[] CONSTANTS = {"NONE", "UNKNOWN", "OUTSIDE", "NOT", "FULL"};
    private static final String[] FORBIDDEN_WORDS = {"throw", "throws", "try", "catch", "synchronized", "assert",
        "import", "package", "protected", "native", "var", "volatile", "transient"};
    private static final int MOST_LINES = 60;
    private static final int MOST_PARAMETERS = 7;
    private static final int MOST_CLASSES = 12;
    private static final int MOST_FIELDS = 20;

    private static final Check check = new Check("FormTest");

    public static void main(String[] args) throws IOException {
        face();
        members();
        String code = withoutCommentsAndTexts(Files.readString(SOURCE));
        words(code);
        methodLengths(code);
        callsMakeNothing();
        check.end();
    }

    private static String signature(Method m) {
        List<String> types = new ArrayList<>();
        for (Class<?> type : m.getParameterTypes()) {
            types.add(type.getSimpleName());
        }
        return m.getName() + "(" + String.join(",", types) + ")";
    }

    private static void face() {
        Class<?> c = GainsaidOnce.class;
        check.holds("public and final", Modifier.isPublic(c.getModifiers()) && Modifier.isFinal(c.getModifiers()));
        TreeSet<String> open = new TreeSet<>();
        for (Method m : c.getDeclaredMethods()) {
            if (!Modifier.isPrivate(m.getModifiers())) {
                open.add(signature(m));
                check.holds(signature(m) + " is a public method that answers an int", m.getReturnType() == int.class
                    && Modifier.isPublic(m.getModifiers()) && !Modifier.isStatic(m.getModifiers()));
            }
        }
        check.holds("the methods of the document: " + open, open.equals(new TreeSet<>(Arrays.asList(FACE))));
        TreeSet<String> fields = new TreeSet<>();
        for (Field f : c.getDeclaredFields()) {
            if (!Modifier.isPrivate(f.getModifiers())) {
                fields.add(f.getName());
            }
        }
        check.holds("its constants: " + fields, fields.equals(new TreeSet<>(Arrays.asList(CONSTANTS))));
        Constructor<?>[] made = c.getDeclaredConstructors();
        check.holds("one public constructor", made.length == 1 && made[0].getParameterCount() == 0
            && Modifier.isPublic(made[0].getModifiers()));
    }

    private static void members() {
        TreeSet<String> faceNames = new TreeSet<>();
        for (String signature : FACE) {
            faceNames.add(signature.substring(0, signature.indexOf('(')));
        }
        List<Class<?>> all = new ArrayList<>(Arrays.asList(GainsaidOnce.class.getDeclaredClasses()));
        for (Class<?> c : all) {
            check.holds(c + " is private and static", Modifier.isPrivate(c.getModifiers())
                && Modifier.isStatic(c.getModifiers()));
        }
        all.add(GainsaidOnce.class);
        check.holds("few classes: " + all.size(), all.size() <= MOST_CLASSES);
        for (Class<?> c : all) {
            int fields = 0;
            for (Field f : c.getDeclaredFields()) {
                boolean isStatic = Modifier.isStatic(f.getModifiers());
                fields += isStatic ? 0 : 1;
                check.holds(f + " is final if static", !isStatic || Modifier.isFinal(f.getModifiers()));
            }
            check.holds(c + " has few fields: " + fields, fields <= MOST_FIELDS);
            for (Method m : c.getDeclaredMethods()) {
                check.holds(m + " has few parameters", m.getParameterCount() <= MOST_PARAMETERS);
                check.holds(m + " has a name of its own", Modifier.isPublic(m.getModifiers())
                    || !faceNames.contains(m.getName()));
            }
        }
    }

    private static String withoutCommentsAndTexts(String source) {
        return source.replaceAll("(?s)/\\*.*?\\*/", "").replaceAll("//[^\n]*", "")
            .replaceAll("\"[^\"\n]*\"", "\"\"");
    }

    private static void words(String code) {
        for (String word : FORBIDDEN_WORDS) {
            check.holds("no " + word, !Pattern.compile("\\b" + word + "\\b").matcher(code).find());
        }
        check.holds("no lambda", !code.contains("->"));
        check.holds("no method reference", !code.contains("::"));
        check.holds("no static block", !Pattern.compile("\\bstatic\\s*\\{").matcher(code).find());
        check.holds("no library but Integer and Math", !Pattern
            .compile("\\b(System|Arrays|Collections|Objects|Thread|Random|java|Object|Double|Character)\\b")
            .matcher(code).find());
        check.holds("no exact functions", !code.contains("Exact("));
        check.holds("no constants of Integer", !code.contains("_VALUE"));
    }

    private static void methodLengths(String code) {
        Matcher head = Pattern.compile("(?m)^( +)(?:private |public |static )*[\\w\\[\\]]+ \\w+\\([^;{]*\\) \\{$")
            .matcher(code);
        int methods = 0;
        while (head.find()) {
            int end = code.indexOf("\n" + head.group(1) + "}", head.start());
            long lines = code.substring(head.start(), end).lines().count() + 1;
            check.holds(head.group().trim() + " is short: " + lines, lines <= MOST_LINES);
            methods++;
        }
        check.holds("methods were found: " + methods, methods > FACE.length);
    }

    /** All of a run lives in one room, so calls should make nothing that stays. */
    private static void callsMakeNothing() {
        if (!(ManagementFactory.getThreadMXBean() instanceof com.sun.management.ThreadMXBean threads)
                || !threads.isThreadAllocatedMemorySupported()) {
            return;
        }
        GainsaidOnce x = Check.told("t255;c1 1;c1 1;c1 1;c1 1;c1 1;h0 15 0;h1 255 1;h2 255 2;h3 255 3;h4 7 4;h0 1 8;");
        askAll(x);
        long before = threads.getThreadAllocatedBytes(Thread.currentThread().getId());
        for (int i = 0; i < 2000; i++) {
            askAll(x);
        }
        long made = threads.getThreadAllocatedBytes(Thread.currentThread().getId()) - before;
        check.holds("calls make nothing: " + made, made < 16384);
    }

    private static void askAll(GainsaidOnce x) {
        x.cry(255, 0, 1);
        x.month();
        x.keepIn(0, true);
        x.move(1, 2);
        x.cold(0, true);
        x.drift(3);
        x.undo(5);
        x.would(255, 0, 1, 0);
        x.bestRound(255, 255, 0);
        x.began(255, 0, 1, -1);
        x.passed();
        x.hired(255, 0, 1, 0);
        x.spoilt(255, 0, 1, 0);
        x.odds(60, 1);
        x.see(255, 0, 1);
        x.behind(-2);
        x.write(1);
        x.judge();
        x.tear();
        x.keep(0);
        x.goBack(0);
        x.feed('x');
        x.town();
    }
}
