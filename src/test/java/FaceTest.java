import java.lang.reflect.Constructor;
import java.lang.reflect.Field;
import java.lang.reflect.Method;
import java.lang.reflect.Modifier;
import java.util.ArrayList;
import java.util.Arrays;
import java.util.List;

/** The face of the class: no less and no more than the document's, and no private method of the same name. */
final class FaceTest {
    private static final String I = "IndexOutOfBoundsException";
    private static final String A = "IllegalArgumentException";
    private static final String S = "IllegalStateException";
    private static final String[] FACE = {
        "append(int) " + A + " " + S, "clearText()", "errorPosition()", "load() " + S, "about(int) " + A,
        "pileOf(int,int) " + I + " " + A, "logOf(int,int) " + I + " " + A,
        "ranked(int,int,int) " + I + " " + A + " " + S, "pile() " + S, "log(int,int) " + I + " " + A + " " + S,
        "draw(int) " + I, "take(int) " + I, "join(int,int) " + I + " " + A, "cover(int,boolean) " + I,
        "wind(int) " + A, "rain(int) " + A, "mend(int) " + I, "nights(int) " + A, "set(int) " + A, "undo() " + S,
        "drawsTill(int,int) " + I + " " + A, "ifJoined(int,int) " + I + " " + A, "fewestLifts()",
        "ifMended(int,int) " + I + " " + A, "harmless()", "runScript(int,long) " + A, "simulate(long,int) " + A,
        "save(int) " + I, "restore(int) " + I + " " + S,
    };

    public static void main(String[] args) throws ReflectiveOperationException {
        Checks c = new Checks();
        Class<?> face = WoodPiles.class;
        c.due("public final", face.getModifiers() & (Modifier.PUBLIC | Modifier.FINAL | Modifier.ABSTRACT),
                Modifier.PUBLIC | Modifier.FINAL);
        List<String> due = new ArrayList<>(Arrays.asList(FACE));
        List<String> got = new ArrayList<>();
        List<String> publicNames = new ArrayList<>();
        for (Method m : face.getDeclaredMethods()) {
            if (Modifier.isPublic(m.getModifiers())) {
                publicNames.add(m.getName());
                got.add(told(m));
                c.due(m.getName() + " answers int", m.getReturnType(), int.class);
                c.due(m.getName() + " is static", Modifier.isStatic(m.getModifiers()), false);
            } else {
                c.due(m.getName() + " is private", Modifier.isPrivate(m.getModifiers()), true);
            }
        }
        due.sort(null);
        got.sort(null);
        c.due("the public methods", got, due);
        lookAtInside(c, face, publicNames);
        lookAtFields(c, face);
        Constructor<?>[] constructors = face.getDeclaredConstructors();
        c.due("constructors", constructors.length, 1);
        c.due("constructor", constructors[0].toString(), "public WoodPiles()");
        c.end("FaceTest");
    }

    private static String told(Method m) {
        StringBuilder text = new StringBuilder(m.getName()).append('(');
        for (int i = 0; i < m.getParameterCount(); i++) {
            text.append(i == 0 ? "" : ",").append(m.getParameterTypes()[i].getSimpleName());
        }
        text.append(')');
        for (Class<?> e : m.getExceptionTypes()) {
            text.append(' ').append(e.getSimpleName());
        }
        return text.toString();
    }

    private static void lookAtInside(Checks c, Class<?> face, List<String> publicNames) {
        List<Class<?>> all = new ArrayList<>(Arrays.asList(face.getDeclaredClasses()));
        all.add(face);
        for (Class<?> one : all) {
            for (Method m : one.getDeclaredMethods()) {
                boolean hidden = !Modifier.isPublic(m.getModifiers());
                c.due(m + " bears a public one's name", hidden && publicNames.contains(m.getName()), false);
            }
        }
    }

    private static void lookAtFields(Checks c, Class<?> face) throws ReflectiveOperationException {
        for (Field f : face.getDeclaredFields()) {
            if (!f.getName().equals("NONE")) {
                c.due(f.getName() + " is private", Modifier.isPrivate(f.getModifiers()), true);
            }
            if (Modifier.isStatic(f.getModifiers())) {
                c.due(f.getName() + " is final", Modifier.isFinal(f.getModifiers()), true);
            }
        }
        Field none = face.getDeclaredField("NONE");
        c.due("NONE", none.getInt(null), -1);
        c.due("NONE", none.toString(), "public static final int WoodPiles.NONE");
    }
}
