import java.lang.reflect.Constructor;
import java.lang.reflect.Field;
import java.lang.reflect.Method;
import java.lang.reflect.Modifier;
import java.util.Set;
import java.util.TreeSet;

/** The document's face: every signature, and no other member that can be seen. */
final class FaceTest {
    private static final String[] FACE = {
        "letter 1", "town 0", "minutes 2", "person 2", "thing 2", "law 1", "may 3", "take 2", "go 2", "lay 2",
        "hand 3", "tarry 2", "give 2", "there 0", "soonest 1", "over 2", "bars 1", "never 0", "why 1", "round 3",
        "each 1", "pay 1", "fewest 0", "beside 0", "houses 0", "days 2", "row 1", "judge 0", "image 0", "on 0",
        "count 1"};

    public static void main(String[] args) {
        Class<?> type = NobodyCarries.class;
        Due.is("public and final", type.getModifiers(), Modifier.PUBLIC | Modifier.FINAL);
        Set<String> seen = new TreeSet<>();
        Set<String> hidden = new TreeSet<>();
        for (Method method : type.getDeclaredMethods()) {
            if (Modifier.isPrivate(method.getModifiers())) {
                hidden.add(method.getName());
                continue;
            }
            seen.add(method.getName() + " " + method.getParameterCount());
            Due.is(method + " is public alone", method.getModifiers(), Modifier.PUBLIC);
            Due.is(method + " answers an int", method.getReturnType() == int.class ? 1 : 0, 1);
            for (Class<?> parameter : method.getParameterTypes()) {
                Due.is(method + " takes ints", parameter == int.class ? 1 : 0, 1);
            }
        }
        Due.is("the face " + seen, seen.equals(new TreeSet<>(Set.of(FACE))) ? 1 : 0, 1);
        for (String line : FACE) {
            String name = line.substring(0, line.indexOf(' '));
            Due.is("a private method named " + name, hidden.contains(name) ? 1 : 0, 0);
        }
        for (Field field : type.getDeclaredFields()) {
            Due.is(field + " is private", Modifier.isPrivate(field.getModifiers()) ? 1 : 0, 1);
        }
        Constructor<?>[] constructors = type.getDeclaredConstructors();
        Due.is("constructors", constructors.length, 1);
        Due.is("its parameters", constructors[0].getParameterCount(), 0);
        Due.is("it is public", constructors[0].getModifiers(), Modifier.PUBLIC);
        Due.end();
    }
}
