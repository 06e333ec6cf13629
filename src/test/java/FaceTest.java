import java.lang.reflect.Constructor;
import java.lang.reflect.Field;
import java.lang.reflect.Method;
import java.lang.reflect.Modifier;
import java.util.Arrays;
import java.util.Set;
import java.util.TreeSet;

/** The public face is the document's, to the letter, and nothing else of the class can be seen from outside. */
final class FaceTest {
    private static final String STATE = " IllegalStateException";
    private static final String ARGUMENT = " IllegalArgumentException";

    private static final Set<String> METHODS = new TreeSet<>(Arrays.asList(
            "int pile [int, int, int, int]" + ARGUMENT + STATE,
            "void ground [int, int, int, int]" + ARGUMENT,
            "int sinks [int, int, int]" + ARGUMENT,
            "void tip [int, int, int]" + ARGUMENT,
            "int under [int, int]" + ARGUMENT,
            "int piece [int, int, int, int]" + ARGUMENT,
            "int load [int, int]" + ARGUMENT,
            "int hold [int]" + ARGUMENT,
            "int cheapest [int, int]" + ARGUMENT,
            "boolean join [int, boolean]" + ARGUMENT,
            "int group [int]" + ARGUMENT + STATE,
            "int share [int, int]" + ARGUMENT + STATE,
            "int blow [int, int, int]" + ARGUMENT,
            "int wave [int, int]" + STATE + ARGUMENT));

    public static void main(String[] args) {
        Expect expect = new Expect("FaceTest");
        expect.yes("the class is public", Modifier.isPublic(PileMoves.class.getModifiers()));
        expect.yes("the class is final", Modifier.isFinal(PileMoves.class.getModifiers()));
        expect.same("NONE", -1000000, PileMoves.NONE);
        methods(expect);
        fields(expect);
        Constructor<?>[] constructors = PileMoves.class.getDeclaredConstructors();
        expect.same("how many constructors", 1, constructors.length);
        expect.yes("the constructor is public", Modifier.isPublic(constructors[0].getModifiers()));
        expect.same("what the constructor takes", 0, constructors[0].getParameterCount());
        expect.same("what the constructor throws", 0, constructors[0].getExceptionTypes().length);
        expect.end();
    }

    private static void methods(Expect expect) {
        Set<String> seen = new TreeSet<>();
        Set<String> names = new TreeSet<>();
        for (Method method : PileMoves.class.getDeclaredMethods()) {
            if (Modifier.isPublic(method.getModifiers())) {
                seen.add(told(method));
                names.add(method.getName());
            }
        }
        expect.yes("the public methods " + seen + " are the document's", seen.equals(METHODS));
        for (Method method : PileMoves.class.getDeclaredMethods()) {
            if (!Modifier.isPublic(method.getModifiers())) {
                expect.yes(method + " is private", Modifier.isPrivate(method.getModifiers()));
                expect.no(method + " bears a public name", names.contains(method.getName()));
            }
        }
    }

    private static void fields(Expect expect) {
        for (Field field : PileMoves.class.getDeclaredFields()) {
            boolean constant = field.getName().equals("NONE");
            expect.same(field + " is public", constant ? 1 : 0, Modifier.isPublic(field.getModifiers()) ? 1 : 0);
            expect.same(field + " is private", constant ? 0 : 1, Modifier.isPrivate(field.getModifiers()) ? 1 : 0);
            if (Modifier.isStatic(field.getModifiers())) {
                expect.yes(field + " is final", Modifier.isFinal(field.getModifiers()));
            }
        }
    }

    private static String told(Method method) {
        StringBuilder text = new StringBuilder();
        text.append(method.getReturnType().getSimpleName()).append(' ').append(method.getName()).append(" [");
        String between = "";
        for (Class<?> type : method.getParameterTypes()) {
            text.append(between).append(type.getSimpleName());
            between = ", ";
        }
        text.append(']');
        for (Class<?> type : method.getExceptionTypes()) {
            text.append(' ').append(type.getSimpleName());
        }
        return text.toString();
    }
}
