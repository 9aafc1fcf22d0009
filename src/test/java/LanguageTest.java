import java.lang.reflect.Constructor;
import java.lang.reflect.Field;
import java.lang.reflect.Method;
import java.lang.reflect.Modifier;
import java.nio.file.Files;
import java.nio.file.Path;
import java.util.ArrayList;
import java.util.Arrays;
import java.util.List;
import java.util.Set;
import java.util.TreeSet;
import java.util.regex.Pattern;

/** What can be seen from outside of the face and of the rules of LANGUAGE.md. The argument is the source. */
public final class LanguageTest {
    private static final List<String> FACE = Arrays.asList(
        "come(int,int)", "leave(int)", "move(int)", "stay(int,int)", "lose(int)", "pass(int)", "set(int,int)", "perform()",
        "type(char)", "clearText()", "undo()", "keep()", "restore()", "room(int,int)", "guest(int,int)", "hook(int)",
        "free(int,int)", "greatest(int)", "total(int)", "why(int)", "ifCome(int)", "untilRoom(int)", "bestLeave()",
        "ifPassed(int,int)");
    private static final List<String> CONSTANTS = Arrays.asList(
        "UNKNOWN=-1", "OUT_OF_RANGE=-2", "FULL=-3", "NOT_POSSIBLE=-4", "NONE=-5", "REFUSED=-10");
    private static final String[] FORBIDDEN = {
        "\\b(throw|throws|try|catch|finally|synchronized|assert|import|package|volatile|native)\\b",
        "->", "::", "\"\\s*\\+", "\\+\\s*\"", "\\b(System\\.(?!arraycopy)|Thread|Object|hashCode|toString)\\b"};

    private static int wrong = 0;

    public static void main(String[] args) throws Exception {
        String source = Files.readString(Path.of(args[0]));
        faceIsTheDocuments();
        eachClass(TwinSuites.class);
        for (Class<?> inside : TwinSuites.class.getDeclaredClasses()) {
            eachClass(inside);
            check(Modifier.isStatic(inside.getModifiers()), inside + " is not static");
            check(!Modifier.isPublic(inside.getModifiers()), inside + " is public");
            check(!Modifier.isProtected(inside.getModifiers()), inside + " is protected");
        }
        for (String forbidden : FORBIDDEN) {
            check(!Pattern.compile(forbidden).matcher(withoutComments(source)).find(), "the source has " + forbidden);
        }
        check(source.chars().allMatch(sign -> sign < 128), "the source has a sign beyond 127");
        System.out.println(wrong == 0 ? "LanguageTest: as the rules say" : "LanguageTest: " + wrong + " wrong");
        if (wrong != 0) {
            System.exit(1);
        }
    }

    private static void check(boolean right, String fault) {
        if (!right) {
            wrong++;
            System.out.println(fault);
        }
    }

    private static void faceIsTheDocuments() throws Exception {
        check(TwinSuites.class.getModifiers() == (Modifier.PUBLIC | Modifier.FINAL), "the class is not public and final");
        Set<String> methods = new TreeSet<>();
        for (Method method : TwinSuites.class.getDeclaredMethods()) {
            if (!Modifier.isPrivate(method.getModifiers()) && !method.isSynthetic()) {
                List<String> types = new ArrayList<>();
                for (Class<?> type : method.getParameterTypes()) {
                    types.add(type.getName());
                }
                methods.add(method.getName() + "(" + String.join(",", types) + ")");
                check(method.getModifiers() == Modifier.PUBLIC && method.getReturnType() == int.class, method + " is not as in the document");
            }
        }
        check(methods.equals(new TreeSet<>(FACE)), "the methods are " + methods);
        Set<String> constants = new TreeSet<>();
        for (Field field : TwinSuites.class.getDeclaredFields()) {
            if (!Modifier.isPrivate(field.getModifiers())) {
                constants.add(field.getName() + "=" + field.get(null));
            }
        }
        check(constants.equals(new TreeSet<>(CONSTANTS)), "the constants are " + constants);
        Constructor<?>[] constructors = TwinSuites.class.getDeclaredConstructors();
        check(constructors.length == 1 && Modifier.isPublic(constructors[0].getModifiers()), "the constructor is not as in the document");
    }

    private static void eachClass(Class<?> type) {
        int fields = 0;
        for (Field field : type.getDeclaredFields()) {
            if (Modifier.isStatic(field.getModifiers())) {
                check(Modifier.isFinal(field.getModifiers()), field + " is static and not final");
            } else {
                fields++;
            }
        }
        check(fields <= 20, type + " has " + fields + " fields");
        for (Method method : type.getDeclaredMethods()) {
            check(method.getParameterCount() <= 7, method + " takes too many parameters");
            boolean nameOfTheFace = FACE.stream().anyMatch(call -> call.startsWith(method.getName() + "("));
            check(type == TwinSuites.class || !nameOfTheFace, method + " bears the name of a public one");
        }
    }

    private static String withoutComments(String source) {
        return source.replaceAll("(?s)/\\*.*?\\*/", " ").replaceAll("//[^\n]*", " ");
    }
}
