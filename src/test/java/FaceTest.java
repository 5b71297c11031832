import java.lang.reflect.Constructor;
import java.lang.reflect.Field;
import java.lang.reflect.Method;
import java.lang.reflect.Modifier;
import java.util.ArrayList;
import java.util.List;
import java.util.Set;
import java.util.TreeSet;

/** The face is the document's, and nothing else is open: rules 1, 5 and 11 of LANGUAGE.md. */
public final class FaceTest {
    private static final String[] FACE = {
        "int fare(int,int)", "int of(int,int)", "int odds(int,int,int)", "int drop()", "int rule(int,int)",
        "long shows(int)", "long net(int,int)", "int netCut(int,int)", "long worth(int,int)",
        "int worthShort(int,int)", "long gross(int,int)", "int taken(int,int,int)", "int kept(int,int)",
        "int limit(int,int)", "long chance(int,int,int)", "long turned(int,int)", "long had(int,int,int)",
        "int booked(int,int)", "long ways(int,int,int)", "int leg(int,int,int)", "int feed(int)", "int clear()",
        "int book()", "int ends()", "int route(int,int)", "int part(int,int)", "int cost(int)", "int replay(int)",
        "int spell()", "int paper(int)", "int told(int)", "long demand(int,int,int)", "long spill(int,int,int)",
        "int hand(int,int)", "int byHand(int)", "int drawn(int,int,int,int)", "int seed(int)",
        "int tray(int,int,int)", "int lays(int,int,int)", "int laid(int,int)", "int like(int,int)",
        "int list(int,int)", "int set(int,int,long)", "long get(int,int)", "int judge(int,int,int)",
        "int image()", "int undo()"};
    private static final Set<String> STATIC_TYPES =
        Set.of("int", "long", "boolean", "char", "String", "int[]", "long[]", "char[]", "byte[]");

    public static void main(String[] args) {
        Class<?> face = FareLimits.class;
        Due.holds("public and final", Modifier.isPublic(face.getModifiers()) && Modifier.isFinal(face.getModifiers()));
        methods(face);
        fields(face);
        Constructor<?>[] made = face.getDeclaredConstructors();
        Due.holds("one public constructor without numbers", made.length == 1
            && Modifier.isPublic(made[0].getModifiers()) && made[0].getParameterCount() == 0);
        inner(face);
        Due.end("FaceTest");
    }

    private static void methods(Class<?> face) {
        Set<String> open = new TreeSet<>();
        Set<String> names = new TreeSet<>();
        for (Method m : face.getDeclaredMethods()) {
            if (Modifier.isPublic(m.getModifiers())) {
                open.add(signature(m));
                names.add(m.getName());
                Due.holds(m.getName() + " is no static one", !Modifier.isStatic(m.getModifiers()));
            } else {
                Due.holds(m.getName() + " is private", Modifier.isPrivate(m.getModifiers()) || m.isSynthetic());
            }
        }
        Due.same("the face", open.toString(), new TreeSet<>(List.of(FACE)).toString());
        List<Class<?>> all = new ArrayList<>(List.of(face.getDeclaredClasses()));
        all.add(face);
        for (Class<?> c : all) {
            for (Method m : c.getDeclaredMethods()) {
                Due.holds(c.getSimpleName() + "." + m.getName() + " bears no name of the face",
                    c == face && Modifier.isPublic(m.getModifiers()) || !names.contains(m.getName()));
                Due.holds(m.getName() + " takes seven at most", m.getParameterCount() <= 7);
            }
        }
    }

    private static String signature(Method m) {
        StringBuilder text = new StringBuilder(m.getReturnType().getSimpleName() + " " + m.getName() + "(");
        for (Class<?> p : m.getParameterTypes()) {
            text.append(text.charAt(text.length() - 1) == '(' ? "" : ",").append(p.getSimpleName());
        }
        return text.append(")").toString();
    }

    private static void fields(Class<?> face) {
        Set<String> open = new TreeSet<>();
        for (Field f : face.getDeclaredFields()) {
            if (!Modifier.isPrivate(f.getModifiers()) && !f.isSynthetic()) {
                open.add(f.getType().getSimpleName() + " " + f.getName());
                Due.holds(f.getName() + " is public static final",
                    (f.getModifiers() & 31) == (Modifier.PUBLIC | Modifier.STATIC | Modifier.FINAL));
            }
        }
        Due.same("the constants", open.toString(), "[int BAD, int FULL, int NONE, int OVER, int STATE]");
    }

    private static void inner(Class<?> face) {
        List<Class<?>> all = new ArrayList<>(List.of(face.getDeclaredClasses()));
        Due.holds("twelve classes at most", all.size() + 1 <= 12);
        for (Class<?> c : all) {
            Due.holds(c.getSimpleName() + " is static and not open", Modifier.isStatic(c.getModifiers())
                && !Modifier.isPublic(c.getModifiers()) && !Modifier.isProtected(c.getModifiers()));
        }
        all.add(face);
        for (Class<?> c : all) {
            int own = 0;
            for (Field f : c.getDeclaredFields()) {
                boolean isStatic = Modifier.isStatic(f.getModifiers());
                own += isStatic ? 0 : 1;
                boolean isKept = f.getType().isArray() && f.getType().getComponentType().isEnum();
                Due.holds(c.getSimpleName() + "." + f.getName() + " is a constant", !isStatic || f.isEnumConstant()
                    || f.isSynthetic() || Modifier.isFinal(f.getModifiers())
                    && (isKept || STATIC_TYPES.contains(f.getType().getSimpleName())));
            }
            Due.holds(c.getSimpleName() + " has twenty fields at most", own <= 20);
        }
    }
}
