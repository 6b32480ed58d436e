import java.lang.reflect.Constructor;
import java.lang.reflect.Field;
import java.lang.reflect.Method;
import java.lang.reflect.Modifier;
import java.util.Set;
import java.util.TreeSet;

/** The public face is the document's, and nothing else of the class can be seen. */
public final class FaceTest {
    private static final String HOUSE = "IndexOutOfBoundsException";
    private static final String ARGUMENT = "IllegalArgumentException";
    private static final String STATE = "IllegalStateException";
    private static final String ELEMENT = "NoSuchElementException";
    private static final String ARITHMETIC = "ArithmeticException";

    private static final String[] DUE = {
        "int book(int,int,int,int) " + HOUSE + " " + ARGUMENT + " " + STATE,
        "int series(int,int,int,int,int,int) " + HOUSE + " " + ARGUMENT + " " + STATE,
        "boolean callOff(int,int) " + HOUSE,
        "int callOffAll(int,int,int) " + HOUSE + " " + ARGUMENT,
        "int put(int,int,int) " + HOUSE + " " + ARGUMENT + " " + ELEMENT + " " + STATE,
        "int join(int,int) " + HOUSE + " " + STATE,
        "int part(int,int,int) " + HOUSE + " " + STATE,
        "int next(int) " + HOUSE + " " + ELEMENT,
        "int run(int,int) " + HOUSE + " " + ARGUMENT + " " + STATE,
        "int back(int,int) " + HOUSE + " " + ARGUMENT + " " + STATE,
        "int clock(int) " + HOUSE,
        "int waiting(int) " + HOUSE,
        "int came(int) " + HOUSE,
        "int waits(int,int) " + HOUSE + " " + ELEMENT,
        "int cameAt(int,int) " + HOUSE + " " + ELEMENT,
        "int nextTime(int,int) " + HOUSE + " " + ELEMENT,
        "long about(int,char) " + HOUSE + " " + ARGUMENT,
        "int crowd(int,int) " + HOUSE,
        "int change(int,int) " + HOUSE,
        "int greatest(int) " + HOUSE,
        "int greatestFrom(int) " + HOUSE + " " + ELEMENT,
        "int busy(int,int,int) " + HOUSE + " " + ARGUMENT,
        "int spans(int) " + HOUSE,
        "int span(int,int,char) " + HOUSE + " " + ARGUMENT + " " + ELEMENT,
        "int free(int,int,int) " + HOUSE + " " + ARGUMENT,
        "long load(int) " + HOUSE,
        "double mean(int) " + HOUSE + " " + ARITHMETIC,
        "float share(int) " + HOUSE + " " + ARITHMETIC,
        "boolean isQuiet(int) " + HOUSE,
        "long checksum()",
        "boolean isSound()"
    };

    public static void main(String[] args) {
        Check check = new Check();
        Class<?> face = Bookinghouse.class;
        check.yes("public final class", Modifier.isPublic(face.getModifiers())
                && Modifier.isFinal(face.getModifiers()) && face.getPackageName().isEmpty());
        Set<String> seen = new TreeSet<>();
        Set<String> hidden = new TreeSet<>();
        for (Method method : face.getDeclaredMethods()) {
            if (Modifier.isPrivate(method.getModifiers())) {
                hidden.add(method.getName());
            } else {
                check.yes(method + " is public", Modifier.isPublic(method.getModifiers())
                        && !Modifier.isStatic(method.getModifiers()));
                seen.add(signature(method));
            }
        }
        check.same("methods", seen, new TreeSet<>(Set.of(DUE)));
        for (String due : DUE) {
            String name = due.substring(due.indexOf(' ') + 1, due.indexOf('('));
            check.yes("no private method is named " + name, !hidden.contains(name));
        }
        for (Field field : face.getDeclaredFields()) {
            check.yes(field + " is private", Modifier.isPrivate(field.getModifiers()));
        }
        Constructor<?>[] constructors = face.getDeclaredConstructors();
        check.yes("one public constructor without arguments", constructors.length == 1
                && Modifier.isPublic(constructors[0].getModifiers())
                && constructors[0].getParameterCount() == 0);
        check.end();
    }

    private static String signature(Method method) {
        StringBuilder text = new StringBuilder();
        text.append(method.getReturnType().getSimpleName()).append(' ').append(method.getName()).append('(');
        for (Class<?> type : method.getParameterTypes()) {
            text.append(text.charAt(text.length() - 1) == '(' ? "" : ",").append(type.getSimpleName());
        }
        text.append(')');
        for (Class<?> type : method.getExceptionTypes()) {
            text.append(' ').append(type.getSimpleName());
        }
        return text.toString();
    }
}
