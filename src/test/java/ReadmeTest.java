import java.io.IOException;
import java.lang.reflect.Field;
import java.lang.reflect.Method;
import java.nio.file.Files;
import java.nio.file.Path;
import java.util.ArrayList;
import java.util.List;
import java.util.regex.Matcher;
import java.util.regex.Pattern;

/** README.md: its example answers as it says there, and its tables have every public member. */
public final class ReadmeTest {
    private static final Path README = Path.of("README.md");
    private static final Path PROGRAM = Path.of("src/main/java/CellMapper.java");
    private static final Pattern CALL = Pattern.compile("x\\.(\\w+)\\((.*)\\); +// (\\S+?):?( .*)?");
    private static final Pattern MEMBER = Pattern.compile(" {4}public ([^=]*\\)) \\{");

    public static void main(String[] args) throws IOException, ReflectiveOperationException {
        Check check = new Check();
        List<String> lines = Files.readAllLines(README);
        checkExample(check, lines);
        checkTables(check, String.join("\n", lines));
        check.finish();
    }

    private static void checkExample(Check check, List<String> lines) throws ReflectiveOperationException {
        CellMapper x = new CellMapper();
        List<String> called = new ArrayList<>();
        for (String line : lines) {
            Matcher call = CALL.matcher(line);
            if (call.matches()) {
                called.add(call.group(1));
                Object got = answer(x, call.group(1), call.group(2));
                if (got != null) {
                    check.due(line, got.toString(), call.group(3));
                }
            }
        }
        for (Method method : CellMapper.class.getMethods()) {
            if (method.getDeclaringClass() == CellMapper.class) {
                check.due("the example has " + method.getName(), called.contains(method.getName()), true);
            }
        }
    }

    /** What the call answers; null when it answers nothing. */
    private static Object answer(CellMapper x, String name, String arguments)
            throws ReflectiveOperationException {
        String[] texts = arguments.isEmpty() ? new String[0] : arguments.split(", ");
        Class<?>[] types = new Class<?>[texts.length];
        Object[] values = new Object[texts.length];
        for (int k = 0; k < texts.length; k++) {
            types[k] = int.class;
            values[k] = Integer.valueOf(texts[k]);
        }
        return CellMapper.class.getMethod(name, types).invoke(x, values);
    }

    private static void checkTables(Check check, String readme) throws IOException, ReflectiveOperationException {
        for (Field constant : CellMapper.class.getFields()) {
            String row = "\n| `" + constant.getName() + "` | " + constant.getInt(null) + " |";
            check.due("a row begins with " + constant.getName(), readme.contains(row), true);
        }
        int members = 0;
        for (String line : Files.readAllLines(PROGRAM)) {
            Matcher member = MEMBER.matcher(line);
            if (member.matches()) {
                members++;
                String row = "\n| `" + member.group(1) + "` |";
                check.due("a row begins with " + member.group(1), readme.contains(row), true);
            }
        }
        check.due("the constructor and the methods", members, 20);
    }
}
