import java.lang.reflect.Constructor;
import java.lang.reflect.Field;
import java.lang.reflect.Method;
import java.lang.reflect.Modifier;
import java.util.Set;
import java.util.TreeSet;

/** The class has the face of the document, and no other member that could be seen from outside. */
public final class FaceTest {
    private static final String[] FACE = {
        "int currency()", "int security(long,int)", "int price(int,long,int)", "int give(int,int,long)",
        "int back(int,int,long)", "int pledge(int,int,long)", "int free(int,int,long)", "int limit(int,int,long)",
        "int open(int,int)", "int leg(int,int,int,long)", "boolean holds()", "boolean post()", "int drop()",
        "long net(int)", "long value(int)", "long floor(int)", "boolean isThere(int)", "long credit(int)", "void day()",
    };

    private static int wrong = 0;

    private static void due(String what, boolean so) {
        if (!so) {
            wrong++;
            System.out.println("not as due: " + what);
        }
    }

    private static String faceOf(Method method) {
        StringBuilder text = new StringBuilder(method.getReturnType() + " " + method.getName() + "(");
        for (Class<?> type : method.getParameterTypes()) {
            text.append(text.charAt(text.length() - 1) == '(' ? "" : ",").append(type);
        }
        return text.append(')').toString();
    }

    private static void methods() {
        Set<String> seen = new TreeSet<>();
        Set<String> publicNames = new TreeSet<>();
        Set<String> privateNames = new TreeSet<>();
        for (Method method : PositionDesk.class.getDeclaredMethods()) {
            if (Modifier.isPrivate(method.getModifiers())) {
                privateNames.add(method.getName());
            } else {
                seen.add(faceOf(method));
                publicNames.add(method.getName());
                due(method + " is public", Modifier.isPublic(method.getModifiers()));
                due(method + " is no static one", !Modifier.isStatic(method.getModifiers()));
                due(method + " declares no exception", method.getExceptionTypes().length == 0);
            }
        }
        due("the methods are those of the document: " + seen, seen.equals(new TreeSet<>(Set.of(FACE))));
        privateNames.retainAll(publicNames);
        due("no private method bears the name of a public one: " + privateNames, privateNames.isEmpty());
    }

    private static void otherMembers() {
        due("the class is final", Modifier.isFinal(PositionDesk.class.getModifiers()));
        due("the class is public", Modifier.isPublic(PositionDesk.class.getModifiers()));
        for (Field field : PositionDesk.class.getDeclaredFields()) {
            due(field + " is private", Modifier.isPrivate(field.getModifiers()));
            boolean isStatic = Modifier.isStatic(field.getModifiers());
            due(field + " is final if it is static", !isStatic || Modifier.isFinal(field.getModifiers()));
        }
        Constructor<?>[] constructors = PositionDesk.class.getDeclaredConstructors();
        due("one constructor", constructors.length == 1);
        due("the constructor is public", Modifier.isPublic(constructors[0].getModifiers()));
        for (Class<?> inside : PositionDesk.class.getDeclaredClasses()) {
            int modifiers = inside.getModifiers();
            due(inside + " is static", Modifier.isStatic(modifiers));
            due(inside + " is not public or protected", !Modifier.isPublic(modifiers) && !Modifier.isProtected(modifiers));
        }
    }

    public static void main(String[] args) {
        methods();
        otherMembers();
        System.out.println(wrong == 0 ? "the face is as due" : wrong + " things are not as due");
        if (wrong != 0) {
            System.exit(1);
        }
    }
}
