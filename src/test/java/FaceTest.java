import java.lang.reflect.Constructor;
import java.lang.reflect.Field;
import java.lang.reflect.Method;
import java.lang.reflect.Modifier;
import java.util.HashSet;
import java.util.Set;
import java.util.TreeSet;

/** The public face and the rules of LANGUAGE.md that reflection can see. */
public final class FaceTest {
    private static final int MOST_FIELDS = 20;
    private static final int MOST_CLASSES = 12;

    public static void main(String[] args) {
        methodsAreThoseOfTheDocument();
        constantsAreThoseOfTheDocument();
        rulesOfTheClasses();
        Check.finish();
    }

    private static void methodsAreThoseOfTheDocument() {
        Set<String> want = new TreeSet<>(Set.of(
                "int trunk(int,int)", "int route(int,int,int,int,int)", "int hunt(int,int,int)", "void lift(int,int)",
                "void hang(int,int)", "boolean dial(int,int,int)", "void tick(int)", "boolean out(int,boolean)"));
        want.addAll(Set.of(
                "boolean hold(int,int,boolean)", "int tone(int,int)", "boolean rings(int,int)", "int talks(int,int)",
                "int meter(int,int)", "int seized(int,int,int)", "int idle(int,int)", "int overflow(int,int)"));
        Set<String> got = new TreeSet<>();
        for (Method method : CrossbarNet.class.getDeclaredMethods()) {
            if (!Modifier.isPrivate(method.getModifiers())) {
                got.add(signatureOf(method));
            }
        }
        Check.due("the methods of the face", got, want);
        Check.due("the class is final", Modifier.isFinal(CrossbarNet.class.getModifiers()), true);
        Constructor<?>[] constructors = CrossbarNet.class.getDeclaredConstructors();
        Check.due("how many constructors", constructors.length, 1);
        Check.due("the constructor's parameters", constructors[0].getParameterCount(), 0);
    }

    private static String signatureOf(Method method) {
        StringBuilder text = new StringBuilder();
        for (Class<?> type : method.getParameterTypes()) {
            text.append(text.length() == 0 ? "" : ",").append(type.getName());
        }
        return method.getReturnType().getName() + " " + method.getName() + "(" + text + ")";
    }

    private static void constantsAreThoseOfTheDocument() {
        Check.due("NONE", CrossbarNet.NONE, -1);
        Check.due("SILENCE", CrossbarNet.SILENCE, 0);
        Check.due("DIAL", CrossbarNet.DIAL, 1);
        Check.due("RINGBACK", CrossbarNet.RINGBACK, 2);
        Check.due("BUSY", CrossbarNet.BUSY, 3);
        Check.due("CONGESTION", CrossbarNet.CONGESTION, 4);
        Check.due("UNKNOWN", CrossbarNet.UNKNOWN, 5);
        int seen = 0;
        for (Field field : CrossbarNet.class.getDeclaredFields()) {
            if (!Modifier.isPrivate(field.getModifiers())) {
                seen++;
            }
        }
        Check.due("how many constants the face has", seen, 7);
    }

    private static void rulesOfTheClasses() {
        Class<?>[] inside = CrossbarNet.class.getDeclaredClasses();
        Check.due("at most twelve classes", inside.length + 1 <= MOST_CLASSES, true);
        fieldsAreFew(CrossbarNet.class);
        for (Class<?> one : inside) {
            Check.due(one.getName() + " is static", Modifier.isStatic(one.getModifiers()), true);
            Check.due(one.getName() + " is not public", Modifier.isPublic(one.getModifiers()), false);
            fieldsAreFew(one);
        }
        Set<String> names = new HashSet<>();
        for (Method method : CrossbarNet.class.getDeclaredMethods()) {
            Check.due(method.getName() + " is the name of one method", names.add(method.getName()), true);
        }
    }

    private static void fieldsAreFew(Class<?> one) {
        int own = 0;
        for (Field field : one.getDeclaredFields()) {
            own += Modifier.isStatic(field.getModifiers()) ? 0 : 1;
            Check.due(one.getName() + "." + field.getName() + " is no changing static field",
                    Modifier.isStatic(field.getModifiers()) && !Modifier.isFinal(field.getModifiers()), false);
        }
        Check.due(one.getName() + " has few fields", own <= MOST_FIELDS, true);
    }
}
