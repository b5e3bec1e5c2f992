import java.lang.reflect.Constructor;
import java.lang.reflect.Field;
import java.lang.reflect.Method;
import java.lang.reflect.Modifier;
import java.util.Arrays;
import java.util.Set;
import java.util.TreeSet;

/** The public face: just the members of the document, with their types and exceptions. */
public final class FaceTest {
    private static final String I = " IndexOutOfBoundsException";
    private static final String A = " IllegalArgumentException";
    private static final String S = " IllegalStateException";

    private static final String[] FACE = {
        "boolean unit(int)",
        "int read()",
        "int rule(int,int)" + I,
        "void set(int,int)" + I + A,
        "long holds(int,int,int,int,int)" + I + A,
        "long together(int,long)" + A,
        "int count(long,long)" + A,
        "boolean pattern(int,int,int,int)" + I + A,
        "int at(int,int)" + S + I,
        "int place(int,int)" + A + S,
        "void clear()",
        "int keeps(int,int,int)" + I + A,
        "int member(int,int,int,int,int)" + A + S,
        "boolean in(int,int,int)" + I + A,
        "int teeth(int,int,int,int,int,int)" + I + A,
        "boolean thick(int,int)" + I + A,
        "int hole(int)" + I,
    };

    public static void main(String[] args) {
        theClassIsPublicAndFinal();
        methodsAreTheDocuments();
        noOtherMemberCanBeSeen();
        privateMethodsBearNamesOfTheirOwn(NailRules.class);
        for (Class<?> inside : NailRules.class.getDeclaredClasses()) {
            privateMethodsBearNamesOfTheirOwn(inside);
        }
        Check.end();
    }

    private static void theClassIsPublicAndFinal() {
        int modifiers = NailRules.class.getModifiers();
        Check.yes("public", Modifier.isPublic(modifiers));
        Check.yes("final", Modifier.isFinal(modifiers));
    }

    private static void methodsAreTheDocuments() {
        Set<String> due = new TreeSet<>(Arrays.asList(FACE));
        Set<String> seen = new TreeSet<>();
        for (Method method : NailRules.class.getDeclaredMethods()) {
            if (!Modifier.isPrivate(method.getModifiers())) {
                Check.yes(method + " is public", Modifier.isPublic(method.getModifiers()));
                Check.no(method + " is static", Modifier.isStatic(method.getModifiers()));
                seen.add(written(method));
            }
        }
        Check.yes("methods " + seen + ", due " + due, seen.equals(due));
    }

    private static String written(Method method) {
        StringBuilder text = new StringBuilder();
        text.append(method.getReturnType().getSimpleName()).append(' ').append(method.getName()).append('(');
        Class<?>[] types = method.getParameterTypes();
        for (int i = 0; i < types.length; i++) {
            text.append(i == 0 ? "" : ",").append(types[i].getSimpleName());
        }
        text.append(')');
        for (Class<?> thrown : method.getExceptionTypes()) {
            text.append(' ').append(thrown.getSimpleName());
        }
        return text.toString();
    }

    private static void noOtherMemberCanBeSeen() {
        for (Field field : NailRules.class.getDeclaredFields()) {
            boolean constant = field.getName().equals("NONE");
            Check.yes(field + " can be seen or not", Modifier.isPrivate(field.getModifiers()) != constant);
            if (Modifier.isStatic(field.getModifiers())) {
                Check.yes(field + " is final", Modifier.isFinal(field.getModifiers()));
            }
        }
        Constructor<?>[] constructors = NailRules.class.getDeclaredConstructors();
        Check.same("constructors", constructors.length, 1);
        Check.same("its parameters", constructors[0].getParameterCount(), 0);
        Check.yes("it is public", Modifier.isPublic(constructors[0].getModifiers()));
        for (Class<?> inside : NailRules.class.getDeclaredClasses()) {
            Check.yes(inside + " is static", Modifier.isStatic(inside.getModifiers()));
            Check.no(inside + " is public", Modifier.isPublic(inside.getModifiers()));
        }
    }

    private static void privateMethodsBearNamesOfTheirOwn(Class<?> owner) {
        Set<String> names = new TreeSet<>();
        for (Method method : NailRules.class.getMethods()) {
            names.add(method.getName());
        }
        for (Method method : owner.getDeclaredMethods()) {
            if (Modifier.isPrivate(method.getModifiers())) {
                Check.no(method + " has a public one's name", names.contains(method.getName()));
            }
        }
    }
}
