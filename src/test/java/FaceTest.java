import java.lang.reflect.Constructor;
import java.lang.reflect.Field;
import java.lang.reflect.Method;
import java.lang.reflect.Modifier;
import java.util.Set;
import java.util.TreeSet;

/** The public face: just the members of the document, and nothing else that others can see. */
public final class FaceTest {
    private static final Set<String> METHODS = Set.of(
        "int input()", "int latch(int)", "int function(int,int,int,int)", "boolean drive(int,int)",
        "int output(int)", "int cell(int,int,int)", "int nodes()", "int nodeOf(int)", "int part(int,int)",
        "int map()", "int area()", "int cellAt(int)", "int period()", "int shortest()", "int moves(int)",
        "long latches(int,int)", "int clock(int)", "int clockRetimed(int)", "void reset()");

    public static void main(String[] args) {
        Check check = new Check();
        checkMethods(check);
        checkFields(check);
        checkClasses(check);
        Constructor<?>[] constructors = CellMapper.class.getDeclaredConstructors();
        check.due("number of constructors", constructors.length, 1);
        check.due("constructor is public", Modifier.isPublic(constructors[0].getModifiers()), true);
        check.due("constructor's parameters", constructors[0].getParameterCount(), 0);
        check.due("class is public and final", CellMapper.class.getModifiers(), Modifier.PUBLIC | Modifier.FINAL);
        check.finish();
    }

    private static void checkMethods(Check check) {
        Set<String> seen = new TreeSet<>();
        for (Method method : CellMapper.class.getDeclaredMethods()) {
            if (Modifier.isPrivate(method.getModifiers())) {
                continue;
            }
            String text = method.getReturnType() + " " + method.getName() + parameters(method);
            seen.add(text);
            check.due(text + " is public", method.getModifiers(), Modifier.PUBLIC);
            check.due(text + " is of the document", METHODS.contains(text), true);
        }
        check.due("number of methods", seen.size(), METHODS.size());
    }

    private static String parameters(Method method) {
        StringBuilder text = new StringBuilder("(");
        for (Class<?> type : method.getParameterTypes()) {
            text.append(text.length() > 1 ? "," : "").append(type);
        }
        return text.append(")").toString();
    }

    private static void checkFields(Check check) {
        int seen = 0;
        for (Field field : CellMapper.class.getDeclaredFields()) {
            if (!Modifier.isPrivate(field.getModifiers())) {
                seen++;
                int constant = Modifier.PUBLIC | Modifier.STATIC | Modifier.FINAL;
                check.due(field.getName() + " is a constant", field.getModifiers(), constant);
            }
        }
        check.due("number of constants", seen, 6);
        check.due("BAD", CellMapper.BAD, -1);
        check.due("FULL", CellMapper.FULL, -2);
        check.due("UNDRIVEN", CellMapper.UNDRIVEN, -3);
        check.due("RING", CellMapper.RING, -4);
        check.due("LIBRARY", CellMapper.LIBRARY, -5);
        check.due("UNMAPPED", CellMapper.UNMAPPED, -6);
    }

    private static void checkClasses(Check check) {
        for (Class<?> inside : CellMapper.class.getDeclaredClasses()) {
            int modifiers = inside.getModifiers();
            check.due(inside + " is static", Modifier.isStatic(modifiers), true);
            check.due(inside + " is seen", Modifier.isPublic(modifiers) || Modifier.isProtected(modifiers), false);
        }
    }
}
