import java.lang.reflect.Constructor;
import java.lang.reflect.Field;
import java.lang.reflect.Method;
import java.lang.reflect.Modifier;
import java.util.Arrays;
import java.util.TreeSet;

/** The public face, and that there is no other. */
public final class FaceTest {
    private static final String[] FACE = {
        "int feed(int,int,int,int,int) throws IllegalStateException",
        "int end(int) throws IllegalArgumentException",
        "int open(int,int)",
        "int set(int,int,int) throws NoSuchElementException,IllegalArgumentException",
        "int write(int) throws NoSuchElementException,IllegalStateException,UnsupportedOperationException",
        "long read(int,int) throws NoSuchElementException,IllegalArgumentException,IllegalStateException,"
            + "UnsupportedOperationException",
        "int close(int) throws NoSuchElementException,IllegalStateException",
        "int abort(int) throws NoSuchElementException",
        "long tick(int) throws IllegalArgumentException",
        "int deliver(int) throws NoSuchElementException",
        "int drop(int) throws NoSuchElementException",
        "int copy(int) throws NoSuchElementException",
        "int flip(int,int,int,boolean) throws NoSuchElementException,IndexOutOfBoundsException",
        "int inject(int) throws NoSuchElementException,IllegalArgumentException",
        "int seen(int,int) throws NoSuchElementException,IndexOutOfBoundsException",
        "int about(int,int) throws NoSuchElementException,IllegalArgumentException",
        "int count(int)",
    };

    public static void main(String[] args) {
        Class<?> face = StreamPair.class;
        Due.is("public and final", face.getModifiers(), Modifier.PUBLIC | Modifier.FINAL);
        TreeSet<String> found = new TreeSet<>();
        TreeSet<String> names = new TreeSet<>();
        for (Method method : face.getDeclaredMethods()) {
            if (!Modifier.isPrivate(method.getModifiers())) {
                found.add(told(method));
                names.add(method.getName());
                Due.is(method.getName() + " is public", method.getModifiers(), Modifier.PUBLIC);
            }
        }
        Due.same("the methods", String.join("\n", found), String.join("\n", new TreeSet<>(Arrays.asList(FACE))));
        Due.is("constructors", face.getDeclaredConstructors().length, 1);
        for (Constructor<?> maker : face.getDeclaredConstructors()) {
            Due.is("a public constructor of nothing", maker.getParameterCount(), 0);
            Due.is("a public constructor of nothing", maker.getModifiers(), Modifier.PUBLIC);
        }
        fieldsArePrivate(face);
        for (Class<?> inside : face.getDeclaredClasses()) {
            Due.is(inside + " is static", inside.getModifiers() & Modifier.STATIC, Modifier.STATIC);
            Due.is(inside + " is not seen", inside.getModifiers() & (Modifier.PUBLIC | Modifier.PROTECTED), 0);
            for (Method method : inside.getDeclaredMethods()) {
                Due.is(inside + " has a method " + method.getName(), names.contains(method.getName()) ? 1 : 0, 0);
            }
        }
        Due.finish();
    }

    private static void fieldsArePrivate(Class<?> face) {
        for (Field field : face.getDeclaredFields()) {
            Due.is(field + " is private", Modifier.isPrivate(field.getModifiers()) ? 1 : 0, 1);
        }
    }

    private static String told(Method method) {
        StringBuilder text = new StringBuilder();
        text.append(method.getReturnType().getSimpleName()).append(' ').append(method.getName()).append('(');
        text.append(names(method.getParameterTypes())).append(')');
        if (method.getExceptionTypes().length > 0) {
            text.append(" throws ").append(names(method.getExceptionTypes()));
        }
        return text.toString();
    }

    private static String names(Class<?>[] types) {
        StringBuilder text = new StringBuilder();
        for (Class<?> type : types) {
            text.append(text.length() == 0 ? "" : ",").append(type.getSimpleName());
        }
        return text.toString();
    }
}
