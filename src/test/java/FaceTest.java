import java.lang.reflect.Constructor;
import java.lang.reflect.Field;
import java.lang.reflect.Method;
import java.lang.reflect.Modifier;
import java.util.Arrays;
import java.util.TreeSet;

/** The public face is the document's, and nothing else of the class can be seen. */
public final class FaceTest {
    private static final String[] FACE = {
        "public int blows(int)",
        "public int cell(int,int,int)",
        "public int cost(int,int)",
        "public int drift(int,int)",
        "public int fault()",
        "public int feed(int,int,int,int,int)",
        "public int first()",
        "public int fuel(int,int)",
        "public int helper(int,int)",
        "public int home(int,int)",
        "public int hour(int,int,int)",
        "public int least(int,int)",
        "public int meet(int,int)",
        "public int most(int,int,int,int)",
        "public int reach(int,int)",
        "public int relay(int,int)",
        "public int route(int,int)",
        "public int status(int)",
        "public int text(int)",
        "public int told(int)",
        "public int undo()",
        "public int wind(int,int)",
        "public long print()",
        "public static final int NONE",
        "public SeaMeeting()",
    };

    public static void main(String[] args) throws ReflectiveOperationException {
        Check check = new Check("face");
        TreeSet<String> seen = new TreeSet<>();
        for (Method method : SeaMeeting.class.getDeclaredMethods()) {
            if (!Modifier.isPrivate(method.getModifiers())) {
                seen.add(Modifier.toString(method.getModifiers()) + " " + method.getReturnType() + " "
                        + method.getName() + listed(method.getParameterTypes()));
            }
        }
        for (Field field : SeaMeeting.class.getDeclaredFields()) {
            if (!Modifier.isPrivate(field.getModifiers())) {
                seen.add(Modifier.toString(field.getModifiers()) + " " + field.getType() + " " + field.getName());
            }
        }
        for (Constructor<?> made : SeaMeeting.class.getDeclaredConstructors()) {
            seen.add(Modifier.toString(made.getModifiers()) + " SeaMeeting" + listed(made.getParameterTypes()));
        }
        check.same("the face", new TreeSet<>(Arrays.asList(FACE)).toString(), seen.toString());
        check.same("the class", "public final", Modifier.toString(SeaMeeting.class.getModifiers()));
        check.due("NONE", -1, () -> SeaMeeting.NONE);
        check.end();
    }

    private static String listed(Class<?>[] types) {
        StringBuilder all = new StringBuilder("(");
        for (int i = 0; i < types.length; i++) {
            all.append(i == 0 ? "" : ",").append(types[i].getName());
        }
        return all.append(")").toString();
    }
}
