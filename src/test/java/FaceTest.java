import java.lang.reflect.Constructor;
import java.lang.reflect.Field;
import java.lang.reflect.Method;
import java.lang.reflect.Modifier;
import java.util.TreeSet;

/** The face of the class beside the one that the document prints, and the form that LANGUAGE.md asks for. */
public final class FaceTest {
    private static final String A = "IllegalArgumentException";
    private static final String S = "IllegalStateException";
    private static final String I = "IndexOutOfBoundsException";

    private static final String[] FACE = {
        "int add(int,int,int,int,int) " + A + " " + S, "int remove(int) " + I, "int weigh(int,int) " + I + " " + A,
        "int resize(int,int,int) " + I + " " + A, "int place(int,int) " + I + " " + A + " " + S,
        "int drop(int) " + I, "int solve()", "int push(int) " + I + " " + S, "int mirror()",
        "int append(int) " + A + " " + S, "int clearBuffer()", "int firstError()", "int read() " + A,
        "int undo() " + S, "int point(int,int) " + I + " " + A, "int clash(int,int,int,int) " + I + " " + A,
        "int at(int,int) " + A, "int count(int) " + A, "int best(int) " + I, "int bestWeight(int) " + I,
        "int ifPushed(int) " + I, "int fullPlans()", "int dearest()", "double standingShare()", "long digest()"};

    private static final Check CHECK = new Check("FaceTest");

    public static void main(String[] args) throws Exception {
        Class<CornerLabels> face = CornerLabels.class;
        CHECK.due("modifiers", Modifier.PUBLIC | Modifier.FINAL, face::getModifiers);
        CHECK.due("methods", new TreeSet<>(java.util.List.of(FACE)), () -> methods(face));
        CHECK.due("constructors", 1, () -> face.getDeclaredConstructors().length);
        Constructor<CornerLabels> constructor = face.getDeclaredConstructor();
        CHECK.due("constructor", Modifier.PUBLIC, constructor::getModifiers);
        CHECK.due("fields", new TreeSet<>(java.util.List.of("NONE")), () -> fields(face));
        CHECK.due("NONE", Modifier.PUBLIC | Modifier.STATIC | Modifier.FINAL,
                () -> Check.answerOf(() -> modifiersOfNone(face)));
        for (Class<?> inside : face.getDeclaredClasses()) {
            CHECK.due("a class inside is private or package-visible, and static", true,
                    () -> Modifier.isStatic(inside.getModifiers())
                            && (inside.getModifiers() & (Modifier.PUBLIC | Modifier.PROTECTED)) == 0);
            CHECK.due("a class inside has at most twenty fields", true,
                    () -> inside.getDeclaredFields().length <= 20);
        }
        CHECK.due("private methods bear other names", new TreeSet<String>(), () -> borrowedNames(face));
        CHECK.end();
    }

    private static int modifiersOfNone(Class<?> face) {
        try {
            return face.getDeclaredField("NONE").getModifiers();
        } catch (NoSuchFieldException missing) {
            return -1;
        }
    }

    private static TreeSet<String> methods(Class<?> face) {
        TreeSet<String> texts = new TreeSet<>();
        for (Method method : face.getDeclaredMethods()) {
            if (Modifier.isPrivate(method.getModifiers())) {
                continue;
            }
            StringBuilder text = new StringBuilder(method.getReturnType() + " " + method.getName() + "(");
            for (Class<?> type : method.getParameterTypes()) {
                text.append(text.charAt(text.length() - 1) == '(' ? "" : ",").append(type);
            }
            text.append(')');
            for (Class<?> thrown : method.getExceptionTypes()) {
                text.append(' ').append(thrown.getSimpleName());
            }
            boolean plain = method.getModifiers() == Modifier.PUBLIC;
            texts.add(plain ? text.toString() : "not plainly public: " + text);
        }
        return texts;
    }

    private static TreeSet<String> fields(Class<?> face) {
        TreeSet<String> names = new TreeSet<>();
        for (Field field : face.getDeclaredFields()) {
            if (!Modifier.isPrivate(field.getModifiers())) {
                names.add(field.getName());
            }
        }
        return names;
    }

    private static TreeSet<String> borrowedNames(Class<?> face) {
        TreeSet<String> publicNames = new TreeSet<>();
        for (Method method : face.getMethods()) {
            publicNames.add(method.getName());
        }
        TreeSet<String> borrowed = new TreeSet<>();
        for (Method method : face.getDeclaredMethods()) {
            if (Modifier.isPrivate(method.getModifiers()) && publicNames.contains(method.getName())) {
                borrowed.add(method.getName());
            }
        }
        for (Class<?> inside : face.getDeclaredClasses()) {
            for (Method method : inside.getDeclaredMethods()) {
                if (publicNames.contains(method.getName())) {
                    borrowed.add(method.getName());
                }
            }
        }
        return borrowed;
    }
}
