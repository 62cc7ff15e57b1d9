import java.io.IOException;
import java.lang.reflect.InvocationTargetException;
import java.lang.reflect.Method;
import java.lang.reflect.Modifier;
import java.nio.charset.StandardCharsets;
import java.nio.file.Files;
import java.nio.file.Path;
import java.util.List;
import java.util.regex.Matcher;
import java.util.regex.Pattern;

/** README.md's examples answer as they say, and each call of the face is named there; run from the project's root. */
public final class ReadmeTests {
    private static final Pattern CALL = Pattern.compile("b\\.(\\w+)\\(([^)]*)\\);\\s*// -> ([\\w-]+).*");
    private static final int LEAST_EXAMPLES = 4;
    private static int wrong = 0;

    private static void fault(String text) {
        wrong++;
        System.out.println("README.md: " + text);
    }

    public static void main(String[] args) throws IOException, IllegalAccessException {
        List<String> lines = Files.readAllLines(Path.of("README.md"), StandardCharsets.US_ASCII);
        playExamples(lines);
        String all = String.join("\n", lines);
        for (Method method : BarrelSlots.class.getDeclaredMethods()) {
            if (Modifier.isPublic(method.getModifiers()) && !all.contains("`" + method.getName() + "`")
                && !all.contains("`" + method.getName() + "(")) {
                fault("does not name " + method.getName());
            }
        }
        System.out.println(wrong == 0 ? "README.md holds" : wrong + " faults of README.md");
        if (wrong != 0) {
            System.exit(1);
        }
    }

    private static void playExamples(List<String> lines) throws IllegalAccessException {
        BarrelSlots b = null;
        int examples = 0;
        boolean inside = false;
        for (String line : lines) {
            if (line.startsWith("```")) {
                inside = line.equals("```java");
            } else if (inside && line.equals("BarrelSlots b = new BarrelSlots();")) {
                b = new BarrelSlots();
                examples++;
            } else if (inside) {
                play(b, line);
            }
        }
        if (examples < LEAST_EXAMPLES) {
            fault("has " + examples + " examples");
        }
    }

    private static void play(BarrelSlots b, String line) throws IllegalAccessException {
        Matcher m = CALL.matcher(line);
        if (b == null || !m.matches()) {
            fault("is not read: " + line);
            return;
        }
        String got = answer(b, m.group(1), m.group(2).isEmpty() ? new String[0] : m.group(2).split(", "));
        if (!got.equals(m.group(3))) {
            fault(line + " answered " + got);
        }
    }

    private static String answer(BarrelSlots b, String name, String[] texts) throws IllegalAccessException {
        for (Method method : BarrelSlots.class.getDeclaredMethods()) {
            if (!Modifier.isPublic(method.getModifiers()) || !method.getName().equals(name)
                || method.getParameterCount() != texts.length) {
                continue;
            }
            Object[] arguments = new Object[texts.length];
            for (int i = 0; i < texts.length; i++) {
                boolean truth = method.getParameterTypes()[i] == boolean.class;
                arguments[i] = truth ? (Object) Boolean.valueOf(texts[i]) : (Object) Integer.valueOf(texts[i]);
            }
            try {
                return String.valueOf(method.invoke(b, arguments));
            } catch (InvocationTargetException e) {
                return e.getCause().getClass().getSimpleName();
            }
        }
        return "no such call";
    }
}
