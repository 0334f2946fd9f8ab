import java.lang.reflect.Constructor;
import java.lang.reflect.Field;
import java.lang.reflect.Method;
import java.lang.reflect.Modifier;
import java.util.ArrayList;
import java.util.Arrays;
import java.util.List;

/** The public face is that of the document, and nothing else can be seen from outside. */
public final class FaceTest {
    private static final String[] FACE = {
        "int row(int,int,int)", "int set(int,int,long)", "int copy(int,int,int,int,int)", "long element(int,int)",
        "int show(int,int)", "int holds(int)", "int says(int,int)", "int street(int)", "int sign(int,int,int,int)",
        "int thing(int,boolean,int)", "int things(int,int,int)", "int wander(int,int)", "int ask(int,int)",
        "int signOf(int,int)", "int thingOf(int,int)", "int clear(int)", "int town(int)", "int fault()",
        "int lost(int)", "long odds(int)", "int strength(int,int)", "int step(boolean)", "int feel(int,boolean)",
        "int where()", "int isLost()", "int judge(int,int)", "int told(int,int)", "long worth(int)", "int next()",
        "int ahead()", "int least(int)", "long safe(int,int)", "int first(int,int)", "int order(int,int,int)",
        "int over(int,int,int,int)", "int learnt(int,int)", "int goings(int,int)", "int begin(int)",
        "int goes(boolean)", "int looks(int)", "int right()", "int seed(int)", "int act(int,int,int)",
        "int trace(int)", "int image()", "int restore()", "int status(int)",
    };

    private FaceTest() {
    }

    public static void main(String[] args) {
        Class<?> of = AStreetByACane.class;
        Due.due("the class is public and final", Modifier.PUBLIC | Modifier.FINAL, of.getModifiers());
        List<String> methods = new ArrayList<>();
        for (Method m : of.getDeclaredMethods()) {
            if (!Modifier.isPrivate(m.getModifiers()) && !m.isSynthetic()) {
                methods.add(shape(m) + (m.getModifiers() == Modifier.PUBLIC ? "" : " with other modifiers"));
            }
        }
        Due.same("the methods", sorted(Arrays.asList(FACE)), sorted(methods));
        constants(of);
        for (Constructor<?> c : of.getDeclaredConstructors()) {
            Due.due("the constructor is public", Modifier.PUBLIC, c.getModifiers());
            Due.due("the constructor's arguments", 0, c.getParameterCount());
        }
        Due.due("NONE", -1, AStreetByACane.NONE);
        Due.end();
    }

    private static void constants(Class<?> of) {
        List<String> fields = new ArrayList<>();
        for (Field f : of.getDeclaredFields()) {
            if (!Modifier.isPrivate(f.getModifiers())) {
                fields.add(Modifier.toString(f.getModifiers()) + " " + f.getType() + " " + f.getName());
            }
        }
        Due.same("the fields", "[public static final int NONE]", fields.toString());
    }

    private static String shape(Method m) {
        List<String> types = new ArrayList<>();
        for (Class<?> type : m.getParameterTypes()) {
            types.add(type.getName());
        }
        return m.getReturnType().getName() + " " + m.getName() + "(" + String.join(",", types) + ")";
    }

    private static String sorted(List<String> lines) {
        List<String> copy = new ArrayList<>(lines);
        copy.sort(null);
        return String.join("\n", copy);
    }
}
