import java.lang.reflect.Constructor;
import java.lang.reflect.Field;
import java.lang.reflect.Method;
import java.lang.reflect.Modifier;
import java.util.ArrayList;
import java.util.Collections;
import java.util.List;

/** The public face: what the document lists, with no other member that can be seen from outside. */
public final class FaceTest {
    private static final Check CHECK = new Check("FaceTest");
    private static final String[] METHODS = {
        "int act(int,int,int,int) IllegalArgumentException",
        "int at(int)",
        "int clear()",
        "int drop()",
        "int half(long,boolean)",
        "int narrow(long)",
        "int next()",
        "int print(int,int)",
        "int run(int,int)",
        "int set(int,int) ArrayIndexOutOfBoundsException",
        "int step(int,int,int,int,int)",
        "int test(int,int,int,int) IllegalArgumentException",
        "int wideTest(int,long,long,long) IllegalArgumentException",
        "int word(int) ArrayIndexOutOfBoundsException",
        "long join(int,int)",
        "long wide(int,long,long,long) IllegalArgumentException",
        "long widen(int)"
    };

    public static void main(String[] args) {
        Class<?> face = GlulxFloats.class;
        CHECK.due("public and final", face.getModifiers(), Modifier.PUBLIC | Modifier.FINAL);
        CHECK.due("OUTSIDE", GlulxFloats.OUTSIDE, -102);
        CHECK.due("ROOM", GlulxFloats.ROOM, -104);
        CHECK.due("NONE", GlulxFloats.NONE, -109);
        methods(face);
        fields(face);
        constructors(face);
        CHECK.end();
    }

    private static void methods(Class<?> face) {
        List<String> seen = new ArrayList<>();
        for (Method method : face.getDeclaredMethods()) {
            if (!Modifier.isPrivate(method.getModifiers())) {
                seen.add(told(method));
            }
        }
        Collections.sort(seen);
        CHECK.due("methods: " + seen, String.join("; ", seen).equals(String.join("; ", METHODS)) ? 1 : 0, 1);
    }

    private static String told(Method method) {
        StringBuilder text = new StringBuilder();
        text.append(method.getReturnType().getSimpleName()).append(' ').append(method.getName()).append('(');
        String between = "";
        for (Class<?> type : method.getParameterTypes()) {
            text.append(between).append(type.getSimpleName());
            between = ",";
        }
        text.append(')');
        for (Class<?> type : method.getExceptionTypes()) {
            text.append(' ').append(type.getSimpleName());
        }
        CHECK.due(method.getName() + " is public alone", method.getModifiers(), Modifier.PUBLIC);
        return text.toString();
    }

    private static void fields(Class<?> face) {
        int seen = 0;
        for (Field field : face.getDeclaredFields()) {
            if (!Modifier.isPrivate(field.getModifiers())) {
                seen++;
                CHECK.due(field.getName(), field.getModifiers(),
                    Modifier.PUBLIC | Modifier.STATIC | Modifier.FINAL);
            }
        }
        CHECK.due("constants", seen, 3);
    }

    private static void constructors(Class<?> face) {
        Constructor<?>[] all = face.getDeclaredConstructors();
        CHECK.due("constructors", all.length, 1);
        CHECK.due("its parameters", all[0].getParameterCount(), 0);
        CHECK.due("it is public", all[0].getModifiers(), Modifier.PUBLIC);
    }
}
