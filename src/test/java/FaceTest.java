import java.lang.reflect.Constructor;
import java.lang.reflect.Field;
import java.lang.reflect.Method;
import java.lang.reflect.Modifier;
import java.util.Set;
import java.util.TreeSet;

/** The public face: just these constants, constructors and methods, with what they take, answer and throw. */
public final class FaceTest {
    private static final Due DUE = new Due("FaceTest");
    private static final String[] FACE = {"feed int int int int int int", "end boolean int", "table int", "fault int",
        "about int int int NoSuchElementException", "all long int", "ways long int int",
        "mean long int int NoSuchElementException", "against long int int int int", "beats int int int int", "beaten int int",
        "ring int", "ringAt int int", "threes int", "top int", "anyTwo int", "picks int int", "pickAt int int",
        "others int int int int int int", "otherAt int int int int NoSuchElementException", "fair int", "order int int",
        "placed int int int", "firstWord int int int int", "laid int int", "letter int int", "rolled int", "rolledBy long int",
        "meets long int int", "apart long int int", "shift int int int NoSuchElementException", "count int int"};

    public static void main(String[] args) throws ReflectiveOperationException {
        methods();
        constructors();
        constants();
        inside();
        DUE.end();
    }

    /** Its name, what it answers, what it takes, what it throws. */
    private static String told(Method method) {
        StringBuilder told = new StringBuilder(method.getName()).append(' ').append(method.getReturnType().getSimpleName());
        for (Class<?> type : method.getParameterTypes()) {
            told.append(' ').append(type.getSimpleName());
        }
        for (Class<?> type : method.getExceptionTypes()) {
            told.append(' ').append(type.getSimpleName());
        }
        return told.toString();
    }

    private static void methods() {
        DUE.sentence("public final class DiceRing {");
        Set<String> want = new TreeSet<>(Set.of(FACE));
        Set<String> face = new TreeSet<>();
        for (Method method : DiceRing.class.getDeclaredMethods()) {
            if (Modifier.isPrivate(method.getModifiers())) {
                continue;
            }
            face.add(told(method));
            DUE.is(method + " is one of the face", want.contains(told(method)), true);
            DUE.is(method + " is public", Modifier.isPublic(method.getModifiers()), true);
            DUE.is(method + " is of no object", Modifier.isStatic(method.getModifiers()), false);
        }
        for (String method : want) {
            DUE.is(method + " is there", face.contains(method), true);
        }
        int modifiers = DiceRing.class.getModifiers();
        DUE.is("public and final", Modifier.isPublic(modifiers) && Modifier.isFinal(modifiers), true);
    }

    private static void constructors() {
        DUE.sentence("public DiceRing();");
        Constructor<?>[] all = DiceRing.class.getDeclaredConstructors();
        DUE.is("constructors", all.length, 1);
        DUE.is("it is public", Modifier.isPublic(all[0].getModifiers()), true);
        DUE.is("it takes", all[0].getParameterCount(), 0);
    }

    private static void constants() throws ReflectiveOperationException {
        DUE.sentence("public static final int NONE = -1;");
        int constants = 0;
        for (Field field : DiceRing.class.getDeclaredFields()) {
            constants += Modifier.isPrivate(field.getModifiers()) ? 0 : 1;
        }
        DUE.is("constants", constants, 1);
        Field none = DiceRing.class.getDeclaredField("NONE");
        DUE.is("NONE", none.getInt(null), -1);
        DUE.is("NONE is an int", none.getType() == int.class, true);
        DUE.is("NONE is public, static and final", none.getModifiers(), Modifier.PUBLIC | Modifier.STATIC | Modifier.FINAL);
    }

    private static void inside() {
        for (Class<?> inner : DiceRing.class.getDeclaredClasses()) {
            DUE.is(inner + " is public", Modifier.isPublic(inner.getModifiers()), false);
            DUE.is(inner + " is static", Modifier.isStatic(inner.getModifiers()), true);
        }
    }
}
