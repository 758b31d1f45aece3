import java.lang.reflect.Constructor;
import java.lang.reflect.Field;
import java.lang.reflect.Method;
import java.lang.reflect.Modifier;
import java.util.Arrays;
import java.util.Set;
import java.util.TreeSet;

/** The class shows the document's face and nothing else. */
public final class FaceTest {
    private static final String[] METHODS = {
        "int begin(int)", "int canal(int)", "int count(int)", "int crash(int)", "int cut(int,int)", "int deliver(int)",
        "int end(int)", "int holder()", "int join(int,int)", "int letter(int,int)", "int link(int,int)",
        "int lose(int)", "int open(int,int,int)", "int pointer(int)", "int queue(int,int,boolean)", "int resend(int)",
        "int restart(int)", "int step(int)", "int told(int,int)", "int twin(int)", "int want(int,int)"
    };
    private static final Due due = new Due("face");

    public static void main(String[] args) throws IllegalAccessException {
        Class<?> face = PumpHouse.class;
        due.holds("it is public and final", Modifier.isPublic(face.getModifiers()) && Modifier.isFinal(face.getModifiers()));
        methods(face);
        constants(face);
        Constructor<?>[] constructors = face.getDeclaredConstructors();
        due.is("constructors", constructors.length, 1);
        due.holds("it is public and takes nothing",
            Modifier.isPublic(constructors[0].getModifiers()) && constructors[0].getParameterCount() == 0);
        for (Class<?> inside : face.getDeclaredClasses()) {
            due.holds(inside + " is private and static",
                Modifier.isPrivate(inside.getModifiers()) && Modifier.isStatic(inside.getModifiers()));
        }
        due.finish();
    }

    private static void methods(Class<?> face) {
        Set<String> open = new TreeSet<>();
        Set<String> openNames = new TreeSet<>();
        Set<String> privateNames = new TreeSet<>();
        for (Method m : face.getDeclaredMethods()) {
            if (Modifier.isPrivate(m.getModifiers())) {
                privateNames.add(m.getName());
            } else {
                due.holds(m + " is public and no static one",
                    Modifier.isPublic(m.getModifiers()) && !Modifier.isStatic(m.getModifiers()));
                openNames.add(m.getName());
                open.add(m.getReturnType() + " " + m.getName() + parameters(m));
            }
        }
        due.holds("its methods are the document's: " + open, open.equals(new TreeSet<>(Arrays.asList(METHODS))));
        privateNames.retainAll(openNames);
        due.holds("no private method bears a public one's name: " + privateNames, privateNames.isEmpty());
    }

    private static String parameters(Method m) {
        StringBuilder text = new StringBuilder("(");
        for (Class<?> type : m.getParameterTypes()) {
            text.append(text.length() > 1 ? "," : "").append(type);
        }
        return text.append(")").toString();
    }

    private static void constants(Class<?> face) throws IllegalAccessException {
        Set<String> found = new TreeSet<>();
        for (Field f : face.getDeclaredFields()) {
            if (Modifier.isPrivate(f.getModifiers())) {
                continue;
            }
            due.holds(f + " is a constant", f.toString().startsWith("public static final int "));
            found.add(f.getName() + f.getInt(null));
        }
        String[] want = {"BAD-1", "NONE-2", "LETTERS-3", "QUEUED-4", "MARKS-5"};
        due.holds("its constants are the document's: " + found, found.equals(new TreeSet<>(Arrays.asList(want))));
    }
}
