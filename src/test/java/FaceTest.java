import java.lang.reflect.Constructor;
import java.lang.reflect.Field;
import java.lang.reflect.Method;
import java.lang.reflect.Modifier;
import java.util.NoSuchElementException;
import java.util.Set;
import java.util.TreeSet;

/** The class shows the document's face and no other member; LANGUAGE.md, rule 1. */
public final class FaceTest {
    private static final String[] FACE = {
        "int craft(int)", "int machine()", "int stock(int,int)", "int job(int,int,int)",
        "int after(int,int)", "int needs(int,int)", "int uses(int,int,int)",
        "int gives(int,int,int)", "int body(int,int,int,int)", "int piece(int,int)",
        "int strip(int)", "int plan(int,int,int)", "int clearPlan()", "int run(int)",
        "boolean again()", "int state(int,int)!", "int result(int)!", "long part(int,int)!",
        "int check(int)!", "int failures()", "int failure(int,int)!", "long left(int)!",
        "int had(int)!", "long idle(int)!", "int log(int,int)", "int critical(int)",
        "int slack(int)!", "boolean leans(int,int)!", "int audit()", "int count(int)"
    };

    public static void main(String[] args) {
        Due due = new Due("FaceTest");
        Class<?> c = SetWorkshop.class;
        due.is("the class is public and final",
            Modifier.isPublic(c.getModifiers()) && Modifier.isFinal(c.getModifiers()), true);
        Set<String> want = new TreeSet<>(Set.of(FACE));
        Set<String> got = new TreeSet<>();
        Set<String> publicNames = new TreeSet<>();
        for (Method m : c.getDeclaredMethods()) {
            if (!Modifier.isPrivate(m.getModifiers())) {
                got.add(told(m));
                publicNames.add(m.getName());
            }
        }
        due.is("the methods " + got + " are those of the face", got.equals(want), true);
        Constructor<?>[] makers = c.getDeclaredConstructors();
        due.is("one constructor", makers.length, 1);
        due.is("it is public", Modifier.isPublic(makers[0].getModifiers()), true);
        due.is("it takes nothing", makers[0].getParameterCount(), 0);
        for (Field f : c.getDeclaredFields()) {
            boolean shown = !Modifier.isPrivate(f.getModifiers());
            due.is("field " + f.getName() + " is shown", shown, f.getName().equals("NONE"));
            if (Modifier.isStatic(f.getModifiers())) {
                due.is("field " + f.getName() + " is final",
                    Modifier.isFinal(f.getModifiers()), true);
            }
        }
        due.is("NONE", SetWorkshop.NONE, -1);
        hiddenNames(due, c, publicNames);
        for (Class<?> inner : c.getDeclaredClasses()) {
            due.is(inner + " is static", Modifier.isStatic(inner.getModifiers()), true);
            due.is(inner + " is hidden", Modifier.isPublic(inner.getModifiers())
                || Modifier.isProtected(inner.getModifiers()), false);
            hiddenNames(due, inner, publicNames);
        }
        due.is("classes: " + c.getDeclaredClasses().length,
            c.getDeclaredClasses().length <= 12, true);
        due.end();
    }

    private static void hiddenNames(Due due, Class<?> c, Set<String> publicNames) {
        for (Method m : c.getDeclaredMethods()) {
            if (c != SetWorkshop.class || Modifier.isPrivate(m.getModifiers())) {
                due.is(c + "." + m.getName() + " bears a name of the face",
                    publicNames.contains(m.getName()), false);
            }
            due.is(c + "." + m.getName() + " takes seven at most", m.getParameterCount() <= 7, true);
        }
    }

    private static String told(Method m) {
        StringBuilder s = new StringBuilder();
        s.append(m.getReturnType()).append(' ').append(m.getName()).append('(');
        for (int i = 0; i < m.getParameterCount(); i++) {
            s.append(i == 0 ? "" : ",").append(m.getParameterTypes()[i]);
        }
        s.append(')');
        for (Class<?> thrown : m.getExceptionTypes()) {
            s.append(thrown == NoSuchElementException.class ? "!" : "?");
        }
        return s.toString();
    }
}
