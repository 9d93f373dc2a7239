import java.lang.reflect.Field;
import java.lang.reflect.Member;
import java.lang.reflect.Method;
import java.lang.reflect.Modifier;
import java.util.Arrays;
import java.util.Set;
import java.util.TreeSet;

/** The public face, and what else of ../shared/LANGUAGE.md a compiled class shows. */
public final class FaceTest {
    private static final Check CHECK = new Check();
    private static final String[] METHODS = {"putChars 2", "clearTemplate 1", "templateLength 1", "templateChar 2",
        "compile 1", "status 1", "errorAt 1", "newValue 2", "appendChar 2", "addItem 2", "setField 3", "valueInfo 2",
        "fieldOf 2", "render 1", "outLength 0", "outChar 1"};
    private static final String[] CONSTANTS = {"OK 0", "ERR_ARG -1", "ERR_FULL -2", "ERR_UNCLOSED -3", "ERR_TAG -4",
        "ERR_NESTING -5", "ERR_PARTIAL -6", "ERR_NOT_COMPILED -7", "ERR_VALUE -8", "ERR_OVERFLOW -9", "KIND_FALSE 1",
        "KIND_TRUE 2", "KIND_NUM 3", "KIND_STR 4", "KIND_LIST 5", "KIND_MAP 6", "SLOTS 4", "TEXT_CAP 96",
        "VALUE_CAP 32", "STR_CAP 8", "LIST_CAP 4", "MAP_CAP 4", "MAX_OPEN 2", "OUT_MIN 16", "OUT_MAX 256"};

    public static void main(String[] args) throws IllegalAccessException {
        Class<LogicLessTemplate> face = LogicLessTemplate.class;
        CHECK.due("class modifiers", Modifier.toString(face.getModifiers()), "public final");
        CHECK.due("package", face.getPackageName(), "");
        CHECK.due("nested classes", face.getDeclaredClasses().length, 0);
        CHECK.due("constructors", Arrays.toString(face.getDeclaredConstructors()), "[public LogicLessTemplate(int)]");
        methods(face);
        fields(face);
        CHECK.end();
    }

    private static void methods(Class<?> face) {
        Set<String> seen = new TreeSet<>();
        Set<String> names = new TreeSet<>();
        for (Method method : face.getDeclaredMethods()) {
            boolean fresh = names.add(method.getName());
            CHECK.due("only one method " + method.getName(), fresh ? 1 : 0, 1);
            CHECK.due("parameters of " + method.getName(), method.getParameterCount() <= 7 ? 1 : 0, 1);
            if (!isPrivate(method)) {
                seen.add(method.getName() + " " + method.getParameterCount());
                String ints = "int, ".repeat(method.getParameterCount()).replaceAll(", $", "").replace(" ", "");
                CHECK.due("method", method.toString(), "public int LogicLessTemplate." + method.getName() + "(" + ints + ")");
            }
        }
        CHECK.due("methods", seen.toString(), new TreeSet<>(Arrays.asList(METHODS)).toString());
    }

    private static void fields(Class<?> face) throws IllegalAccessException {
        Set<String> seen = new TreeSet<>();
        int held = 0;
        for (Field field : face.getDeclaredFields()) {
            if (!isPrivate(field)) {
                CHECK.due("field", field.toString(), "public static final int LogicLessTemplate." + field.getName());
                seen.add(field.getName() + " " + field.getInt(null));
            }
            boolean isStatic = Modifier.isStatic(field.getModifiers());
            held += isStatic ? 0 : 1;
            boolean plain = field.getType().isPrimitive() || !isStatic && field.getType().getComponentType().isPrimitive();
            CHECK.due("type of " + field.getName(), plain ? 1 : 0, 1);
        }
        CHECK.due("constants", seen.toString(), new TreeSet<>(Arrays.asList(CONSTANTS)).toString());
        CHECK.due("at most forty fields", held <= 40 ? 1 : 0, 1);
    }

    private static boolean isPrivate(Member member) {
        return Modifier.isPrivate(member.getModifiers());
    }
}
