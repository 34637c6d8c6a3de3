import java.lang.reflect.Constructor;
import java.lang.reflect.Field;
import java.lang.reflect.Method;
import java.lang.reflect.Modifier;
import java.util.Set;
import java.util.TreeSet;

/** The class shows the document's face and nothing else, and has no static state. */
public final class FaceTest {
    private static final Set<String> FACE = Set.of(
            "RoundedNumbers(int)",
            "boolean setPrec(int,int)",
            "int loadInt(int,int,int)",
            "int loadScaled(int,long,int,int)",
            "int copy(int,int,int)",
            "int negate(int,int,int)",
            "int add(int,int,int,int)",
            "int sub(int,int,int,int)",
            "int mul(int,int,int,int)",
            "int div(int,int,int,int)",
            "int sqrt(int,int,int)",
            "int fma(int,int,int,int,int)",
            "int cmp(int,int)",
            "int kindOf(int)",
            "int signOf(int)",
            "int expOf(int)",
            "int mantBit(int,int)",
            "long whole(int,int)");

    public static void main(String[] args) {
        Class<?> shown = RoundedNumbers.class;
        Set<String> found = new TreeSet<>();
        Set<String> wrong = new TreeSet<>();
        for (Constructor<?> made : shown.getDeclaredConstructors()) {
            sort(made.getModifiers(), "RoundedNumbers" + list(made.getParameterTypes()), found, wrong);
        }
        for (Method method : shown.getDeclaredMethods()) {
            String text = method.getReturnType() + " " + method.getName() + list(method.getParameterTypes());
            sort(method.getModifiers(), text, found, wrong);
            if (!Modifier.isPublic(method.getModifiers()) && isShown(method.getName())) {
                wrong.add("private " + text);
            }
        }
        for (Field field : shown.getDeclaredFields()) {
            sort(field.getModifiers(), field.getName(), found, wrong);
        }
        findStaticState(shown, wrong);
        for (Class<?> inside : shown.getDeclaredClasses()) {
            int modifiers = inside.getModifiers();
            if (Modifier.isPublic(modifiers) || Modifier.isProtected(modifiers) || !Modifier.isStatic(modifiers)) {
                wrong.add(inside.getName());
            }
            findStaticState(inside, wrong);
        }
        int modifiers = shown.getModifiers();
        boolean right = found.equals(FACE) && wrong.isEmpty()
                && Modifier.isPublic(modifiers) && Modifier.isFinal(modifiers);
        System.out.println(right ? "the face is as due" : "public: " + found + ", not as due: " + wrong);
        if (!right) {
            System.exit(1);
        }
    }

    /** LANGUAGE.md, rule 1: no private method bears the name of a public one. */
    private static boolean isShown(String name) {
        return FACE.stream().anyMatch(text -> text.contains(" " + name + "("));
    }

    /** LANGUAGE.md, rule 5: a static field is a constant. */
    private static void findStaticState(Class<?> inspected, Set<String> wrong) {
        for (Field field : inspected.getDeclaredFields()) {
            int modifiers = field.getModifiers();
            boolean constant = field.getType().isPrimitive() || field.getType() == String.class;
            if (Modifier.isStatic(modifiers) && !(Modifier.isFinal(modifiers) && constant)) {
                wrong.add("static " + inspected.getName() + "." + field.getName());
            }
        }
    }

    private static void sort(int modifiers, String text, Set<String> found, Set<String> wrong) {
        if (Modifier.isPublic(modifiers)) {
            found.add(text);
        } else if (!Modifier.isPrivate(modifiers)) {
            wrong.add(text);
        }
    }

    private static String list(Class<?>[] types) {
        StringBuilder text = new StringBuilder("(");
        for (Class<?> type : types) {
            text.append(text.length() > 1 ? "," : "").append(type.getName());
        }
        return text.append(")").toString();
    }
}
