import java.lang.reflect.Constructor;
import java.lang.reflect.Field;
import java.lang.reflect.Method;
import java.lang.reflect.Modifier;
import java.util.Set;
import java.util.TreeSet;

/** The public face of the document, and rules 1, 2 and 5 of LANGUAGE.md as far as members tell. */
public final class FaceTest {
    private static final Checks CHECKS = new Checks();
    private static final String[] METHODS = {
        "int feed(long,int)", "int cut(int)", "int byteAt(int)", "int put(long)",
        "int append(long)", "int swap(long,int)", "int drop(long)", "int sweep(long,long)",
        "int get(long)", "int has(long)", "int next(long)", "int prior(long)", "long found()",
        "int count()", "int sink()", "int settle()", "int pages()", "int height()",
        "int letters()", "int page(int,int)", "int border(int,int)", "int letter(int,int,int)",
        "int met(long)", "int sync()", "int picture()", "int look(int,long)", "int release(int)",
        "int pictured(int)", "int free()", "int fall(int)", "int crash()", "int rise()",
        "int disk(int,int)", "int bend(int)", "int writes(int)", "int number(int)",
    };

    public static void main(String[] args) {
        constants();
        methodsAndConstructor();
        classesInside();
        CHECKS.end();
    }

    private static void constants() {
        CHECKS.due("NONE", LetterTree.NONE, -1);
        CHECKS.due("BAD", LetterTree.BAD, -2);
        CHECKS.due("FULL", LetterTree.FULL, -3);
        CHECKS.due("DOWN", LetterTree.DOWN, -4);
        CHECKS.due("FELL", LetterTree.FELL, -5);
        Set<String> faces = Set.of("NONE", "BAD", "FULL", "DOWN", "FELL");
        for (Field field : LetterTree.class.getDeclaredFields()) {
            boolean open = Modifier.isPublic(field.getModifiers());
            CHECKS.holds(field + " is of the face or private",
                    open ? faces.contains(field.getName()) : Modifier.isPrivate(field.getModifiers()));
        }
    }

    private static void methodsAndConstructor() {
        CHECKS.holds("final", Modifier.isFinal(LetterTree.class.getModifiers()));
        Constructor<?>[] constructors = LetterTree.class.getDeclaredConstructors();
        CHECKS.due("constructors", constructors.length, 1);
        CHECKS.holds("public", Modifier.isPublic(constructors[0].getModifiers()));
        Set<String> told = new TreeSet<>(Set.of(METHODS));
        Set<String> there = new TreeSet<>();
        for (Method method : LetterTree.class.getDeclaredMethods()) {
            if (Modifier.isPublic(method.getModifiers())) {
                there.add(signature(method));
            } else {
                CHECKS.holds(method + " is private", Modifier.isPrivate(method.getModifiers()));
                CHECKS.holds(method + " bears its own name", !isFaceName(method.getName()));
            }
        }
        CHECKS.holds("the face is as told, not " + there, told.equals(there));
    }

    private static String signature(Method method) {
        StringBuilder text = new StringBuilder();
        text.append(method.getReturnType()).append(' ').append(method.getName()).append('(');
        for (Class<?> type : method.getParameterTypes()) {
            text.append(text.charAt(text.length() - 1) == '(' ? "" : ",").append(type);
        }
        return text.append(')').toString();
    }

    private static boolean isFaceName(String name) {
        for (String method : METHODS) {
            if (method.contains(" " + name + "(")) {
                return true;
            }
        }
        return false;
    }

    private static void classesInside() {
        Class<?>[] inside = LetterTree.class.getDeclaredClasses();
        CHECKS.holds("at most twelve classes", inside.length < 12);
        for (Class<?> one : inside) {
            CHECKS.holds(one + " is static", Modifier.isStatic(one.getModifiers()));
            CHECKS.holds(one + " is private", Modifier.isPrivate(one.getModifiers()));
            for (Method method : one.getDeclaredMethods()) {
                CHECKS.holds(method + " bears its own name", !isFaceName(method.getName()));
                CHECKS.holds(method + " takes at most seven", method.getParameterCount() <= 7);
            }
            for (Field field : one.getDeclaredFields()) {
                CHECKS.holds(field + " is not static", !Modifier.isStatic(field.getModifiers()));
            }
        }
    }
}
