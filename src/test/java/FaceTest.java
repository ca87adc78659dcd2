import java.lang.reflect.Constructor;
import java.lang.reflect.Field;
import java.lang.reflect.Member;
import java.lang.reflect.Method;
import java.lang.reflect.Modifier;
import java.util.Arrays;
import java.util.Set;
import java.util.TreeSet;

/** The face of the class: what the document lists, and nothing else that is not private. */
public final class FaceTest {
    private static final String[] METHODS = {
        "boolean begin(int)", "boolean set(int, int)", "boolean delay(int, int)", "boolean cut(int, boolean)",
        "boolean bid(int, int)", "boolean share(int, int)", "boolean stream(int, int, int)",
        "int frame(int, int, int, int)", "boolean out(int, boolean)", "int state(int)", "int storm(int)",
        "boolean claim(int)", "int lose()", "boolean doubled(int)", "int tick(int)", "int station(int, int)",
        "int queued(int, int, int)", "int link(int, int)", "int message(int, int)", "int suspects()",
        "int sure(int)", "int dealt(int, int)", "int fits(int)", "int least()", "long load(long)", "long mean(int)",
        "int found(int)", "int would(int, int)", "int asked(int, int, int, int)", "int book(int, int)",
        "int log(int, int)", "int count(int)", "boolean image(boolean)", "int look(int)"};

    public static void main(String[] args) {
        Check check = new Check("FaceTest");
        Set<String> want = new TreeSet<>(Arrays.asList(METHODS));
        Set<String> got = new TreeSet<>();
        for (Method method : EarlyToken.class.getDeclaredMethods()) {
            if (!Modifier.isPrivate(method.getModifiers())) {
                got.add(signature(method));
                check.yes(method + " is public", isPlainPublic(method));
            }
        }
        check.yes("methods " + got, got.equals(want));

        for (Field field : EarlyToken.class.getDeclaredFields()) {
            boolean isNone = field.getName().equals("NONE");
            check.yes(field + " is private or NONE", Modifier.isPrivate(field.getModifiers()) || isNone);
            check.yes(field + " is final, if static",
                !Modifier.isStatic(field.getModifiers()) || Modifier.isFinal(field.getModifiers()));
        }
        check.due("NONE", EarlyToken.NONE, -1);

        Constructor<?>[] constructors = EarlyToken.class.getDeclaredConstructors();
        check.due("constructors", constructors.length, 1);
        check.yes("constructor is public", Modifier.isPublic(constructors[0].getModifiers()));
        check.due("its parameters", constructors[0].getParameterCount(), 0);
        check.yes("the class is final", Modifier.isFinal(EarlyToken.class.getModifiers()));
        check.yes("the class is public", Modifier.isPublic(EarlyToken.class.getModifiers()));
        for (Class<?> inside : EarlyToken.class.getDeclaredClasses()) {
            check.yes(inside + " is static", Modifier.isStatic(inside.getModifiers()));
            check.no(inside + " is public", Modifier.isPublic(inside.getModifiers()));
        }
        check.end();
    }

    private static boolean isPlainPublic(Member member) {
        return Modifier.isPublic(member.getModifiers()) && !Modifier.isStatic(member.getModifiers());
    }

    private static String signature(Method method) {
        StringBuilder text = new StringBuilder();
        for (Class<?> type : method.getParameterTypes()) {
            text.append(text.length() == 0 ? "" : ", ").append(type.getName());
        }
        return method.getReturnType().getName() + " " + method.getName() + "(" + text + ")";
    }
}
