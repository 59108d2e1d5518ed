import java.lang.reflect.Constructor;
import java.lang.reflect.Field;
import java.lang.reflect.Method;
import java.lang.reflect.Modifier;
import java.util.Arrays;
import java.util.TreeSet;

/** The public face, just as the document has it: no member more, none less. */
public final class FaceTest {
    private static final String[] METHODS = {
        "int letter(int)", "int blank()", "int fault()", "int tower()", "int keeper(int,int)", "int as(int,int)",
        "int keeps(int,int)", "int hole(int,int)", "int let(int,int)", "int leave(int)", "int year(int)",
        "int forgive()", "long odds(int,int)", "int match(int)", "int see(int,int,boolean)", "int forget()",
        "int centuries(int,int,int)", "int image()", "int restore()", "int count(int)", "long digest()"};

    public static void main(String[] args) {
        Due.due("public and final", VowDoves.class.getModifiers() & (Modifier.PUBLIC | Modifier.FINAL),
            Modifier.PUBLIC | Modifier.FINAL);
        TreeSet<String> methods = new TreeSet<>();
        for (Method method : VowDoves.class.getDeclaredMethods()) {
            if (!Modifier.isPrivate(method.getModifiers())) {
                methods.add(told(method));
            }
        }
        same("methods", methods, METHODS);
        TreeSet<String> fields = new TreeSet<>();
        for (Field field : VowDoves.class.getDeclaredFields()) {
            if (!Modifier.isPrivate(field.getModifiers())) {
                fields.add(Modifier.toString(field.getModifiers()) + " " + field.getType() + " " + field.getName());
            }
        }
        same("constants", fields, "public static final int NONE", "public static final int UNKNOWN",
            "public static final int OUTSIDE", "public static final int STATE", "public static final int FULL");
        Constructor<?>[] constructors = VowDoves.class.getDeclaredConstructors();
        Due.due("constructors", constructors.length, 1);
        Due.due("its parameters", constructors[0].getParameterCount(), 0);
        Due.due("NONE", VowDoves.NONE, -1);
        Due.due("UNKNOWN", VowDoves.UNKNOWN, -101);
        Due.due("OUTSIDE", VowDoves.OUTSIDE, -102);
        Due.due("STATE", VowDoves.STATE, -103);
        Due.due("FULL", VowDoves.FULL, -104);
        Due.end();
    }

    private static String told(Method method) {
        StringBuilder text = new StringBuilder();
        for (Class<?> type : method.getParameterTypes()) {
            text.append(text.length() == 0 ? "" : ",").append(type);
        }
        return method.getReturnType() + " " + method.getName() + "(" + text + ")";
    }

    private static void same(String what, TreeSet<String> got, String... want) {
        TreeSet<String> due = new TreeSet<>(Arrays.asList(want));
        Due.due(what + " " + got + ", due are " + due, got.equals(due) ? 1 : 0, 1);
    }
}
