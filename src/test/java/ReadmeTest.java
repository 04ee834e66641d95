import java.io.IOException;
import java.lang.reflect.Method;
import java.lang.reflect.Modifier;
import java.nio.file.Files;
import java.nio.file.Path;
import java.util.regex.Matcher;
import java.util.regex.Pattern;

/** What README.md says of the class: its example's answers, every call, statements that can be told. */
final class ReadmeTest {
    private static final Pattern TOWN = Pattern.compile("String town = \"([^\"]*)\";");
    private static final Pattern CALL = Pattern.compile("(?m)^x\\.(\\w+)\\(([^)]*)\\);\\s*// (-?\\d+)");
    private static final Pattern STATEMENT = Pattern.compile("(?m)^\\| `[nwpt]`.*\\| `([^`]*)` \\|$");
    private static final Pattern ROW = Pattern.compile("(?m)^\\| `(\\w+)\\(([^)]*)\\)` \\| (.+) \\|$");

    public static void main(String[] args) throws IOException, ReflectiveOperationException {
        String page = Files.readString(Path.of("README.md"));
        example(page);
        statements(page);
        calls(page);
        Due.end();
    }

    private static void example(String page) throws ReflectiveOperationException {
        Matcher town = TOWN.matcher(page);
        Due.is("the example has a town", town.find() ? 1 : 0, 1);
        NobodyCarries x = new NobodyCarries();
        for (char letter : town.group(1).toCharArray()) {
            x.letter(letter);
        }
        int calls = 0;
        Matcher call = CALL.matcher(page);
        while (call.find()) {
            Due.is("README: " + call.group(), answer(x, call.group(1), call.group(2)), Integer.parseInt(call.group(3)));
            calls++;
        }
        Due.is("the example's calls", calls, 11);
    }

    private static int answer(NobodyCarries x, String name, String list) throws ReflectiveOperationException {
        String[] words = list.isEmpty() ? new String[0] : list.split(", ");
        Object[] numbers = new Object[words.length];
        for (int i = 0; i < words.length; i++) {
            numbers[i] = Integer.valueOf(words[i]);
        }
        return (Integer) callNamed(name).invoke(x, numbers);
    }

    private static Method callNamed(String name) {
        for (Method method : NobodyCarries.class.getDeclaredMethods()) {
            if (Modifier.isPublic(method.getModifiers()) && method.getName().equals(name)) {
                return method;
            }
        }
        throw new IllegalStateException("README tells of " + name + ", which is no call");
    }

    private static void statements(String page) {
        NobodyCarries x = new NobodyCarries();
        int statements = 0;
        Matcher statement = STATEMENT.matcher(page);
        while (statement.find()) {
            Due.is("README: " + statement.group(1), Due.tell(x, statement.group(1)), 1);
            statements++;
        }
        Due.is("kinds of statements", statements, 4);
    }

    private static void calls(String page) {
        int told = 0;
        Matcher row = ROW.matcher(page);
        while (row.find()) {
            int parameters = row.group(2).isEmpty() ? 0 : row.group(2).split(", ").length;
            Due.is("README: " + row.group(1) + "'s parameters", parameters, callNamed(row.group(1)).getParameterCount());
            told++;
        }
        Due.is("calls that README tells of", told, 31);
        for (Method method : NobodyCarries.class.getDeclaredMethods()) {
            if (Modifier.isPublic(method.getModifiers())) {
                Due.is("README tells of " + method.getName(), page.contains("| `" + method.getName() + "(") ? 1 : 0, 1);
            }
        }
    }
}
