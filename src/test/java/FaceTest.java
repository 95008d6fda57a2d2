import java.lang.reflect.Constructor;
import java.lang.reflect.Field;
import java.lang.reflect.Member;
import java.lang.reflect.Method;
import java.lang.reflect.Modifier;
import java.util.Arrays;
import java.util.TreeSet;

/** The face of the class is that of the document, and nothing else of it can be seen from outside. */
public final class FaceTest {
    private static final String[] METHODS = {
        "int addSilo(int, int, int)", "int setRule(int, int)", "int setStrength(int, int)",
        "int setTemperature(int, int)", "int set(int, int)", "int move(int, int)", "int pass(int)",
        "int addBoat(int)", "int setCatch(int, int)", "int order(int, int, int, boolean)", "int cancel(int)",
        "int pay(int, int)", "int silo(int, int)", "int block(int, int, int)", "int boat(int, int)",
        "int orderProperty(int, int)", "int receipt(int, int)", "long account(int, int)", "int findAccount(int, int)",
        "int setting(int)", "long total(int)", "double meanAge()", "int massAfter(int)", "int completeIn(int)",
        "int bestRule(int, int)", "int quote(int, int, int)", "int append(int)", "int clear()", "int errorPosition()",
        "int errorKind()", "int execute()", "int undo()"};

    public static void main(String[] args) {
        TreeSet<String> seen = new TreeSet<>();
        TreeSet<String> names = new TreeSet<>();
        for (Method method : IcePlant.class.getDeclaredMethods()) {
            if (isSeen(method)) {
                String types = Arrays.toString(method.getParameterTypes());
                seen.add(method.getReturnType() + " " + method.getName() + "(" + types.substring(1, types.length() - 1) + ")");
                names.add(method.getName());
            }
        }
        same("methods", seen.toString(), new TreeSet<>(Arrays.asList(METHODS)).toString());
        for (Class<?> part : IcePlant.class.getDeclaredClasses()) {
            Check.due("static and not public: " + part, Modifier.isStatic(part.getModifiers())
                    && !Modifier.isPublic(part.getModifiers()) ? 1 : 0, 1);
            bearNoPublicName(part, names);
        }
        bearNoPublicName(IcePlant.class, names);
        StringBuilder fields = new StringBuilder();
        for (Field field : IcePlant.class.getDeclaredFields()) {
            if (isSeen(field)) {
                fields.append(Modifier.toString(field.getModifiers())).append(' ').append(field.getName());
            }
        }
        same("fields", fields.toString(), "public static final NONE");
        Constructor<?>[] constructors = IcePlant.class.getDeclaredConstructors();
        Check.due("constructors", constructors.length, 1);
        Check.due("a public one", Modifier.isPublic(constructors[0].getModifiers()) ? 1 : 0, 1);
        Check.due("without arguments", constructors[0].getParameterCount(), 0);
        same("the class", Modifier.toString(IcePlant.class.getModifiers()), "public final");
        Check.end("FaceTest");
    }

    private static boolean isSeen(Member member) {
        return !Modifier.isPrivate(member.getModifiers());
    }

    private static void bearNoPublicName(Class<?> part, TreeSet<String> names) {
        for (Method method : part.getDeclaredMethods()) {
            boolean isOfTheFace = part == IcePlant.class && isSeen(method);
            if (!isOfTheFace && names.contains(method.getName())) {
                Check.report("a method inside", method.toString(), "another name");
            }
        }
    }

    private static void same(String what, String got, String want) {
        if (!got.equals(want)) {
            Check.report(what, got, want);
        }
    }
}
