import java.lang.reflect.Constructor;
import java.lang.reflect.Field;
import java.lang.reflect.Method;
import java.lang.reflect.Modifier;
import java.util.Arrays;
import java.util.Set;
import java.util.TreeSet;

/** The public face is that of the document, and nothing more can be seen of the class. */
public final class FaceTests {
    private static final String[] FACE = {
        "int tell(int, int, int, int, int)", "int wipe(int)", "int memory(int, int)", "boolean hard(int, boolean)",
        "boolean pin(int, boolean)", "int event(int, int, boolean)", "int slots(int)", "boolean slot(int, int)",
        "int due(int, int)", "int asks(int, int)", "int found()", "int start()", "int run(int)",
        "int set(int, int, int) NoSuchElementException", "int register(int, int) NoSuchElementException",
        "int cell(int, int) NoSuchElementException", "int code(int, int, int) NoSuchElementException",
        "int thread(int, int)", "int level(int, int)", "int edge(int, int)", "int channel(int, int)", "int table(int)",
        "int bound(int, int)", "int span(int, int, int)", "int will(int, int)", "int alone(int, int)",
        "int ahead(int, int, int) NoSuchElementException", "int share(int)", "int count(int)",
    };
    private static int wrong = 0;

    private static void due(String what, Object got, Object want) {
        if (!got.equals(want)) {
            wrong++;
            System.out.println(what + " is " + got + ", due is " + want);
        }
    }

    public static void main(String[] args) {
        due("kind of class", Modifier.toString(BarrelSlots.class.getModifiers()), "public final");
        checkMethods();
        checkFields();
        Constructor<?>[] constructors = BarrelSlots.class.getDeclaredConstructors();
        due("constructors", constructors.length, 1);
        due("constructor", constructors[0].toString(), "public BarrelSlots()");
        for (Class<?> inside : BarrelSlots.class.getDeclaredClasses()) {
            due(inside + " is static", Modifier.isStatic(inside.getModifiers()), true);
            due(inside + " is hidden", Modifier.isPublic(inside.getModifiers()), false);
            checkInside(inside);
        }
        System.out.println(wrong == 0 ? "the face is as due" : wrong + " parts of the face are not as due");
        if (wrong != 0) {
            System.exit(1);
        }
    }

    private static void checkMethods() {
        Set<String> seen = new TreeSet<>();
        Set<String> publicNames = new TreeSet<>();
        Set<String> privateNames = new TreeSet<>();
        for (Method method : BarrelSlots.class.getDeclaredMethods()) {
            if (method.isSynthetic() || Modifier.isPrivate(method.getModifiers())) {
                privateNames.add(method.getName());
                continue;
            }
            due(method + " is plainly public", Modifier.toString(method.getModifiers()), "public");
            publicNames.add(method.getName());
            seen.add(signature(method));
        }
        due("methods", seen, new TreeSet<>(Arrays.asList(FACE)));
        privateNames.retainAll(publicNames);
        due("private methods named as public ones", privateNames, new TreeSet<String>());
    }

    private static String signature(Method method) {
        StringBuilder text = new StringBuilder(method.getReturnType().getSimpleName());
        text.append(' ').append(method.getName()).append('(');
        String between = "";
        for (Class<?> type : method.getParameterTypes()) {
            text.append(between).append(type.getSimpleName());
            between = ", ";
        }
        text.append(')');
        for (Class<?> type : method.getExceptionTypes()) {
            text.append(' ').append(type.getSimpleName());
        }
        return text.toString();
    }

    /** Rules 5 and 11: no static state, some twenty fields at most. */
    private static void checkInside(Class<?> inside) {
        int fields = 0;
        for (Field field : inside.getDeclaredFields()) {
            if (Modifier.isStatic(field.getModifiers())) {
                due(field + " is final", Modifier.isFinal(field.getModifiers()), true);
            } else {
                fields++;
            }
        }
        due(inside + " has few fields", fields <= 20, true);
    }

    private static void checkFields() {
        for (Field field : BarrelSlots.class.getDeclaredFields()) {
            String kind = Modifier.toString(field.getModifiers());
            if (field.getName().equals("NONE")) {
                due("NONE", kind + " " + field.getType(), "public static final int");
            } else {
                due(field + " is private", Modifier.isPrivate(field.getModifiers()), true);
                due(field + " is final or of an object",
                    Modifier.isFinal(field.getModifiers()) || !Modifier.isStatic(field.getModifiers()), true);
            }
        }
        due("NONE", BarrelSlots.NONE, -1);
    }
}
