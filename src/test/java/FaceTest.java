import java.lang.reflect.Constructor;
import java.lang.reflect.Field;
import java.lang.reflect.Member;
import java.lang.reflect.Method;
import java.lang.reflect.Modifier;
import java.nio.file.Files;
import java.nio.file.Path;
import java.util.Set;
import java.util.TreeSet;

/** The face is the document's and nothing else is to be seen; rules of the language that a program can look up. */
public final class FaceTest {
    private static final Set<String> METHODS = Set.of("int set(int,int)", "int corridor(int,int,int,int,int)",
        "int marker(int,int)", "int closeCorridor()", "int begin(int,int,int)", "int step(int,int,int)", "int see(int)",
        "int cut(int)", "int pose(int,int)", "int about(int,int)", "int count(int)", "int wave(int,int)",
        "int ifSet(int,int,int)", "int bestBase()", "int bestTrust()", "int put(long)", "int wipe()", "int fault()",
        "int load()", "int save(int)", "int restore(int)");
    private static final String[] CONSTANTS = {"NO_SUCH -1", "BAD_VALUE -2", "BAD_TEXT -3", "TOO_MANY -4",
        "NOT_POSSIBLE -5", "NONE -6", "GONE 1000000000", "LEFT 0", "RIGHT 1", "BASE 2", "SLIP 3", "TRUST 4", "BIAS 5",
        "PULL 6", "REACH 7", "TOLERANCE 8"};
    private static final String[] RULED_OUT = {"->", "::", "catch", "finally", "synchronized", "assert ", "instanceof",
        "System.out", "throw ", "Exact(", "import java.util.*", "import static", "\" +", "+ \"", "Object", "package "};

    public static void main(String[] args) throws Exception {
        Check check = new Check();
        methods(check);
        constants(check);
        nothingElse(check);
        source(check, Files.readString(Path.of("src/main/java/OdometryDesk.java")));
        check.close("FaceTest");
    }

    private static String face(Method method) {
        StringBuilder types = new StringBuilder();
        for (Class<?> type : method.getParameterTypes()) {
            types.append(types.length() == 0 ? "" : ",").append(type.getName());
        }
        return method.getReturnType().getName() + " " + method.getName() + "(" + types + ")";
    }

    private static void methods(Check check) {
        Set<String> found = new TreeSet<>();
        for (Method method : OdometryDesk.class.getDeclaredMethods()) {
            if (Modifier.isPublic(method.getModifiers())) {
                found.add(face(method));
                check.holds(method.getName() + " belongs to the object", !Modifier.isStatic(method.getModifiers()));
            }
        }
        check.holds("the methods are " + found, found.equals(new TreeSet<>(METHODS)));
        Constructor<?>[] constructors = OdometryDesk.class.getDeclaredConstructors();
        check.due("constructors", constructors.length, 1);
        check.due("arguments of the constructor", constructors[0].getParameterCount(), 0);
        check.holds("the constructor is public", Modifier.isPublic(constructors[0].getModifiers()));
    }

    private static void constants(Check check) throws Exception {
        for (String constant : CONSTANTS) {
            String[] parts = constant.split(" ");
            Field field = OdometryDesk.class.getDeclaredField(parts[0]);
            check.due(parts[0], field.getInt(null), Integer.parseInt(parts[1]));
            check.due(parts[0] + " is public, static and final", field.getModifiers(),
                Modifier.PUBLIC | Modifier.STATIC | Modifier.FINAL);
            check.holds(parts[0] + " is an int", field.getType() == int.class);
        }
    }

    private static void nothingElse(Check check) {
        check.due("the class is public and final", OdometryDesk.class.getModifiers(), Modifier.PUBLIC | Modifier.FINAL);
        Set<String> names = new TreeSet<>();
        METHODS.forEach(method -> names.add(method.substring(4, method.indexOf('('))));
        int open = 0;
        for (Field field : OdometryDesk.class.getDeclaredFields()) {
            open += hidden(field) ? 0 : 1;
            check.holds(field.getName() + " is final", Modifier.isFinal(field.getModifiers()));
        }
        check.due("fields to be seen", open, CONSTANTS.length);
        for (Method method : OdometryDesk.class.getDeclaredMethods()) {
            boolean isFace = METHODS.contains(face(method));
            check.holds(method.getName() + " is hidden or of the face", hidden(method) || isFace);
            check.holds(method.getName() + " bears its own name", isFace || !names.contains(method.getName()));
        }
        for (Class<?> inside : OdometryDesk.class.getDeclaredClasses()) {
            check.holds(inside.getName() + " is static", Modifier.isStatic(inside.getModifiers()));
            check.due(inside.getName() + " is open", inside.getModifiers() & (Modifier.PUBLIC | Modifier.PROTECTED), 0);
            check.holds(inside.getName() + " is small", inside.getDeclaredFields().length <= 20);
            for (Method method : inside.getDeclaredMethods()) {
                check.holds(method + " bears its own name", !names.contains(method.getName()));
                check.holds(method + " takes few", method.getParameterCount() <= 7);
            }
        }
    }

    private static boolean hidden(Member member) {
        return Modifier.isPrivate(member.getModifiers()) || member.isSynthetic();
    }

    private static void source(Check check, String source) {
        String code = source.replaceAll("(?s)/\\*.*?\\*/", "").replaceAll("//[^\n]*", "");
        for (String word : RULED_OUT) {
            check.holds("the source is without " + word, !code.contains(word));
        }
        check.holds("the source has plain signs alone", source.matches("[\\n -~]*"));
    }
}
