import java.lang.reflect.Constructor;
import java.lang.reflect.Executable;
import java.lang.reflect.Field;
import java.lang.reflect.Method;
import java.lang.reflect.Modifier;
import java.util.Set;
import java.util.TreeSet;

/** The public face, as the document writes it, and nothing beside it (rule 1 of LANGUAGE.md). */
final class FaceTest {
    private static final String[] FACE = {
        "int put(int,int) IllegalArgumentException",
        "int word(int) IllegalArgumentException",
        "int set(int,int) IllegalArgumentException",
        "int register(int) IllegalArgumentException",
        "int device(int,int) IllegalArgumentException",
        "int tape(int) IllegalArgumentException IllegalStateException",
        "int run(int) IllegalArgumentException",
        "int why()",
        "int printed(int)",
        "int tear()",
        "void reset()",
        "int feed(int,int,int,int,int) IllegalStateException",
        "void end(int) IllegalArgumentException",
        "int assemble()",
        "int fault(int) IllegalArgumentException",
        "int label(int,int)",
        "int tell(int) IllegalArgumentException",
        "int told(int)",
    };

    public static void main(String[] args) {
        Class<?> face = NovaDesk.class;
        Check.about("LANGUAGE.md, rule 1", "The face: the class of the document, public and final, with the public constructor,"
                + " methods and constants of the document and no other public, protected or package-visible member");
        Check.same("the class", Modifier.toString(face.getModifiers()), "public final");
        methods(face);
        for (Field f : face.getDeclaredFields()) {
            boolean isNone = f.getName().equals("NONE");
            Check.same("public field " + f.getName(), Modifier.isPublic(f.getModifiers()) ? 1 : 0, isNone ? 1 : 0);
            Check.same("private field " + f.getName(), Modifier.isPrivate(f.getModifiers()) ? 1 : 0, isNone ? 0 : 1);
        }
        Constructor<?>[] constructors = face.getDeclaredConstructors();
        Check.same("constructors", constructors.length, 1);
        Check.same("its parameters", constructors[0].getParameterCount(), 0);
        staticFields(face);
        for (Class<?> inside : face.getDeclaredClasses()) {
            Check.same("static " + inside, Modifier.isStatic(inside.getModifiers()) ? 1 : 0, 1);
            staticFields(inside);
        }
        Check.finish();
    }

    private static void methods(Class<?> face) {
        Set<String> due = new TreeSet<>(Set.of(FACE));
        Set<String> publicNames = new TreeSet<>();
        Set<String> got = new TreeSet<>();
        for (Method m : face.getDeclaredMethods()) {
            if (Modifier.isPublic(m.getModifiers())) {
                got.add(m.getReturnType() + " " + m.getName() + written(m));
                publicNames.add(m.getName());
            } else {
                Check.same("private " + m.getName(), Modifier.isPrivate(m.getModifiers()) ? 1 : 0, 1);
            }
        }
        Check.same("public methods", got.toString(), due.toString());
        for (Method m : face.getDeclaredMethods()) {
            boolean isTwice = !Modifier.isPublic(m.getModifiers()) && publicNames.contains(m.getName());
            Check.same("private method with a public name: " + m.getName(), isTwice ? 1 : 0, 0);
        }
    }

    private static String written(Executable m) {
        StringBuilder s = new StringBuilder("(");
        for (Class<?> c : m.getParameterTypes()) {
            s.append(s.length() > 1 ? "," : "").append(c);
        }
        s.append(")");
        for (Class<?> c : m.getExceptionTypes()) {
            s.append(" ").append(c.getSimpleName());
        }
        return s.toString();
    }

    private static void staticFields(Class<?> c) {
        for (Field f : c.getDeclaredFields()) {
            if (Modifier.isStatic(f.getModifiers())) {
                Check.same("final " + c + " " + f.getName(), Modifier.isFinal(f.getModifiers()) ? 1 : 0, 1);
            }
        }
    }
}
