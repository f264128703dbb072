import java.lang.reflect.Constructor;
import java.lang.reflect.Field;
import java.lang.reflect.Method;
import java.lang.reflect.Modifier;
import java.util.Arrays;
import java.util.Set;
import java.util.TreeSet;

/** The document's face and no more, by rules 1 and 5 of LANGUAGE.md. */
public final class FaceTest {
    private static final String[] FACE = {
        "boolean can()",
        "boolean put(int,boolean) NoSuchElementException",
        "boolean same(int,int) NoSuchElementException",
        "boolean value(int) NoSuchElementException",
        "int choose(int,int,int) NoSuchElementException IllegalStateException",
        "int clear()",
        "int count(int)",
        "int doubts()",
        "int input() IllegalStateException",
        "int join(int,int,int) NoSuchElementException IllegalArgumentException IllegalStateException",
        "int not(int) NoSuchElementException IllegalStateException",
        "int shorten()",
        "int want(int) NoSuchElementException IllegalStateException",
        "int wanted(int) NoSuchElementException",
    };

    private FaceTest() {
    }

    public static void main(String[] args) {
        Set<String> names = new TreeSet<>();
        Set<String> face = new TreeSet<>();
        for (Method method : GateBench.class.getDeclaredMethods()) {
            if (!Modifier.isPrivate(method.getModifiers())) {
                face.add(heading(method));
                names.add(method.getName());
            }
        }
        Due.is("the face", new TreeSet<>(Arrays.asList(FACE)), face);
        Due.is("the class is public and final", Modifier.PUBLIC | Modifier.FINAL, GateBench.class.getModifiers());
        Constructor<?>[] constructors = GateBench.class.getDeclaredConstructors();
        Due.is("constructors", 1, constructors.length);
        Due.is("its parameters", 0, constructors[0].getParameterCount());
        Due.is("it is public", true, Modifier.isPublic(constructors[0].getModifiers()));
        for (Field field : GateBench.class.getDeclaredFields()) {
            Due.is(field + " is private", true, Modifier.isPrivate(field.getModifiers()));
        }
        hiddenMembers(GateBench.class, names);
        for (Class<?> inside : GateBench.class.getDeclaredClasses()) {
            Due.is(inside + " is static", true, Modifier.isStatic(inside.getModifiers()));
            Due.is(inside + " is not public", false, Modifier.isPublic(inside.getModifiers()));
            hiddenMembers(inside, names);
        }
        Due.end();
    }

    private static String heading(Method method) {
        StringBuilder text = new StringBuilder();
        text.append(method.getReturnType()).append(' ').append(method.getName()).append('(');
        for (int i = 0; i < method.getParameterCount(); i++) {
            text.append(i == 0 ? "" : ",").append(method.getParameterTypes()[i]);
        }
        text.append(')');
        for (Class<?> thrown : method.getExceptionTypes()) {
            text.append(' ').append(thrown.getSimpleName());
        }
        return text.toString();
    }

    private static void hiddenMembers(Class<?> owner, Set<String> publicNames) {
        for (Method method : owner.getDeclaredMethods()) {
            boolean ofTheFace = Modifier.isPublic(method.getModifiers());
            Due.is(method + " bears a public name", ofTheFace, publicNames.contains(method.getName()));
        }
        for (Field field : owner.getDeclaredFields()) {
            if (Modifier.isStatic(field.getModifiers())) {
                Due.is(field + " is final", true, Modifier.isFinal(field.getModifiers()));
            }
        }
    }
}
