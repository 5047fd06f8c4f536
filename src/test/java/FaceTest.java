import java.lang.reflect.Constructor;
import java.lang.reflect.Field;
import java.lang.reflect.Method;
import java.lang.reflect.Modifier;
import java.util.Set;
import java.util.TreeSet;

/** The face of the document, and rule 1 of LANGUAGE.md. */
public final class FaceTest {
    private static final Check CHECK = new Check("FaceTest");

    private static final String[] FACE = {
        "append(int) IllegalArgumentException IllegalStateException",
        "clearText()",
        "errorPosition()",
        "load() IllegalStateException",
        "about(int) IllegalArgumentException",
        "signOf(int,int) IndexOutOfBoundsException IllegalArgumentException",
        "decreeOf(int,int) IndexOutOfBoundsException IllegalArgumentException",
        "guildOf(int,int) IndexOutOfBoundsException IllegalArgumentException",
        "right(int,int) IndexOutOfBoundsException IllegalArgumentException",
        "setting(int) IllegalArgumentException",
        "sign(int,int) IndexOutOfBoundsException IllegalArgumentException IllegalStateException",
        "decree(int,int,int,int) IllegalArgumentException IllegalStateException",
        "revoke(int) IndexOutOfBoundsException",
        "paint(int) IndexOutOfBoundsException",
        "months(int) IllegalArgumentException",
        "amnesty(int) IllegalArgumentException IllegalStateException",
        "set(int,int) IllegalArgumentException",
        "undo() IllegalStateException",
        "why(int,int,int,int) IllegalArgumentException",
        "droppable()",
        "apart(int,int) IndexOutOfBoundsException",
        "payable(int) IllegalArgumentException",
        "worthIn(int) IndexOutOfBoundsException",
        "runScript(int,long) IllegalArgumentException",
        "simulate(long,int) IllegalArgumentException",
        "save(int) IndexOutOfBoundsException",
        "restore(int) IndexOutOfBoundsException IllegalStateException",
    };

    public static void main(String[] args) {
        theFaceIsTheDocuments();
        nothingElseIsSeen();
        noPrivateMethodBearsAPublicName();
        CHECK.same("NONE", -1, SignReforms.NONE);
        CHECK.end();
    }

    private static void theFaceIsTheDocuments() {
        Set<String> due = new TreeSet<>(Set.of(FACE));
        Set<String> got = new TreeSet<>();
        for (Method method : SignReforms.class.getDeclaredMethods()) {
            if (Modifier.isPublic(method.getModifiers())) {
                CHECK.same(method + " answers an int", "int", method.getReturnType().getName());
                CHECK.same(method + " is static", 0, method.getModifiers() & Modifier.STATIC);
                got.add(told(method));
            }
        }
        CHECK.same("the face", due.toString(), got.toString());
        int modifiers = SignReforms.class.getModifiers();
        CHECK.same("the class is public and final", Modifier.PUBLIC | Modifier.FINAL, modifiers);
    }

    private static String told(Method method) {
        StringBuilder told = new StringBuilder(method.getName()).append('(');
        for (Class<?> type : method.getParameterTypes()) {
            told.append(told.charAt(told.length() - 1) == '(' ? "" : ",").append(type.getName());
        }
        told.append(')');
        for (Class<?> type : method.getExceptionTypes()) {
            told.append(' ').append(type.getSimpleName());
        }
        return told.toString();
    }

    private static void nothingElseIsSeen() {
        for (Method method : SignReforms.class.getDeclaredMethods()) {
            int seen = method.getModifiers() & (Modifier.PUBLIC | Modifier.PRIVATE);
            CHECK.same(method + " is public or private", 1, Integer.bitCount(seen));
        }
        for (Field field : SignReforms.class.getDeclaredFields()) {
            boolean isNone = field.getName().equals("NONE");
            int due = isNone ? Modifier.PUBLIC : Modifier.PRIVATE;
            CHECK.same(field + " is seen", due,
                    field.getModifiers() & (Modifier.PUBLIC | Modifier.PROTECTED | Modifier.PRIVATE));
        }
        Constructor<?>[] constructors = SignReforms.class.getDeclaredConstructors();
        CHECK.same("constructors", 1, constructors.length);
        CHECK.same("the constructor is public", Modifier.PUBLIC, constructors[0].getModifiers());
        CHECK.same("its arguments", 0, constructors[0].getParameterCount());
        for (Class<?> inside : SignReforms.class.getDeclaredClasses()) {
            CHECK.same(inside + " is seen", 0,
                    inside.getModifiers() & (Modifier.PUBLIC | Modifier.PROTECTED));
            CHECK.same(inside + " is static", Modifier.STATIC, inside.getModifiers() & Modifier.STATIC);
        }
    }

    private static void noPrivateMethodBearsAPublicName() {
        Set<String> names = new TreeSet<>();
        for (String method : FACE) {
            names.add(method.substring(0, method.indexOf('(')));
        }
        for (Method method : SignReforms.class.getDeclaredMethods()) {
            boolean clashes = Modifier.isPrivate(method.getModifiers()) && names.contains(method.getName());
            CHECK.same(method + " bears a public name", 0, clashes ? 1 : 0);
        }
        for (Class<?> inside : SignReforms.class.getDeclaredClasses()) {
            for (Method method : inside.getDeclaredMethods()) {
                CHECK.same(method + " bears a public name", 0, names.contains(method.getName()) ? 1 : 0);
            }
        }
    }
}
