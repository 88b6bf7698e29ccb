import java.lang.reflect.Constructor;
import java.lang.reflect.Field;
import java.lang.reflect.Method;
import java.lang.reflect.Modifier;
import java.util.Set;
import java.util.TreeSet;

/** The public face, to the letter, and rule 1 of LANGUAGE.md: nothing else can be seen from outside. */
public final class FaceTest {
    private static final String FACE = """
        int kind(int) IllegalArgumentException UnsupportedOperationException
        void parent(int,int) IllegalArgumentException IllegalStateException
        void says(int,int,int,int) IllegalArgumentException IndexOutOfBoundsException UnsupportedOperationException
        void need(int,int,int,int,int) IllegalArgumentException IndexOutOfBoundsException UnsupportedOperationException
        void close(int,int) IllegalArgumentException IndexOutOfBoundsException
        void area(int,int,int) IllegalArgumentException IndexOutOfBoundsException IllegalStateException
        void upgrade(int,int,int) IllegalArgumentException IndexOutOfBoundsException IllegalStateException UnsupportedOperationException
        int has(int,int,int) IllegalArgumentException IndexOutOfBoundsException
        int in(int,int) IllegalArgumentException IndexOutOfBoundsException
        int open(int,int,int) IllegalArgumentException IndexOutOfBoundsException IllegalStateException UnsupportedOperationException
        int found(int,int,int) IllegalArgumentException IndexOutOfBoundsException IllegalStateException
        int send(int,int,int) IllegalArgumentException IndexOutOfBoundsException UnsupportedOperationException
        int missing(int,int,int) IllegalArgumentException IndexOutOfBoundsException
        int incident(int,int) IllegalArgumentException
        void unit(int,int) IllegalArgumentException IndexOutOfBoundsException
        int uncovered(int,int) IndexOutOfBoundsException
        int coded(int,int) IndexOutOfBoundsException
        int count(int) IllegalArgumentException
        """;

    public static void main(String[] args) {
        Set<String> due = new TreeSet<>(Set.of(FACE.split("\n")));
        Set<String> got = new TreeSet<>();
        Set<String> names = new TreeSet<>();
        for (Method method : IncidentKinds.class.getDeclaredMethods()) {
            if (!Modifier.isPrivate(method.getModifiers())) {
                got.add(told(method));
                names.add(method.getName());
            }
        }
        check(got.equals(due), "the face is " + got);
        check(Modifier.isPublic(IncidentKinds.class.getModifiers()), "the class is not public");
        check(Modifier.isFinal(IncidentKinds.class.getModifiers()), "the class is not final");
        checkConstructor();
        checkHidden(IncidentKinds.class, names);
        for (Class<?> inside : IncidentKinds.class.getDeclaredClasses()) {
            check((inside.getModifiers() & (Modifier.PUBLIC | Modifier.PROTECTED)) == 0, inside + " can be seen");
            check(Modifier.isStatic(inside.getModifiers()), inside + " is not static");
            checkHidden(inside, names);
        }
        Calls.end();
    }

    private static String told(Method method) {
        StringBuilder text = new StringBuilder(method.getReturnType() + " " + method.getName() + "(");
        for (int i = 0; i < method.getParameterCount(); i++) {
            text.append(i == 0 ? "" : ",").append(method.getParameterTypes()[i]);
        }
        text.append(")");
        for (Class<?> thrown : method.getExceptionTypes()) {
            text.append(" ").append(thrown.getSimpleName());
        }
        return text.toString();
    }

    private static void checkConstructor() {
        Constructor<?>[] constructors = IncidentKinds.class.getDeclaredConstructors();
        check(constructors.length == 1 && constructors[0].getParameterCount() == 0
            && Modifier.isPublic(constructors[0].getModifiers()), "the constructor is not the face's");
    }

    private static void checkHidden(Class<?> type, Set<String> publicNames) {
        for (Field field : type.getDeclaredFields()) {
            check(type != IncidentKinds.class || Modifier.isPrivate(field.getModifiers()), field + " can be seen");
            check(!Modifier.isStatic(field.getModifiers()) || Modifier.isFinal(field.getModifiers()), field + " is static state");
        }
        for (Method method : type.getDeclaredMethods()) {
            check(Modifier.isPublic(method.getModifiers()) || !publicNames.contains(method.getName()),
                method + " bears the name of a public method");
            check(method.getParameterCount() <= 7, method + " has too many parameters");
        }
    }

    private static void check(boolean holds, String otherwise) {
        if (!holds) {
            Calls.fail(otherwise);
        }
    }
}
