import java.lang.reflect.Constructor;
import java.lang.reflect.Field;
import java.lang.reflect.Method;
import java.lang.reflect.Modifier;
import java.util.Arrays;
import java.util.Set;
import java.util.TreeSet;

/** The public face, as the document has it, and nothing beside it (rule 1 of LANGUAGE.md). */
public final class FaceTest {
    private static final String[] METHODS = {
        "int row(int, int, int)", "int set(int, int, int)", "int copy(int, int, int, int, int)", "int drop(int)",
        "int feed(int)", "int circuit()", "int fault()", "int undo()", "int years(int)", "int send(int, int)",
        "int sentence(int, int)", "int gate(int, int)", "int severe(int, int)", "int retry(int, int, int)",
        "int man(int, int)", "int judge(int, int)", "int stand(int)", "int ahead(int, int, int)", "int by(int, int)",
        "int when(int, int)", "int sending(int, int)", "int gates(int, int)", "int let(int, int)",
        "int closest(int, int)", "int share(int, int)", "int byTurns(int, int, int, int)",
        "int who(int, int, int, int, int)", "int severes(int, int, int, int, int)",
        "int likes(int, int, int, int, int)", "long fence(int, int, int, int)", "int drawn(int, int, int)",
        "int image(int)", "int restore(int)", "int kind(int)", "int as(int, int)", "int ask(int, int)",
        "int trace(int)", "int count(int)", "int status()"
    };

    public static void main(String[] args) {
        Check.part("the face");
        Class<JudgeHalves> face = JudgeHalves.class;
        Check.holds("the class is public and final",
            Modifier.isPublic(face.getModifiers()) && Modifier.isFinal(face.getModifiers()));
        constructors(face);
        Set<String> names = methods(face);
        fields(face);
        inside(face, names);
        Check.end();
    }

    private static void constructors(Class<?> face) {
        Constructor<?>[] made = face.getDeclaredConstructors();
        Check.due("constructors", made.length, 1);
        Check.holds("it is public and takes nothing",
            Modifier.isPublic(made[0].getModifiers()) && made[0].getParameterCount() == 0);
    }

    private static Set<String> methods(Class<?> face) {
        Set<String> due = new TreeSet<>(Arrays.asList(METHODS));
        Set<String> publicNames = new TreeSet<>();
        Set<String> privateNames = new TreeSet<>();
        for (Method m : face.getDeclaredMethods()) {
            if (!Modifier.isPublic(m.getModifiers())) {
                Check.holds(m + " is private", Modifier.isPrivate(m.getModifiers()));
                privateNames.add(m.getName());
                continue;
            }
            publicNames.add(m.getName());
            String parameters = Arrays.toString(m.getParameterTypes()).replace('[', '(').replace(']', ')');
            Check.holds(m + " is in the document", due.remove(m.getReturnType() + " " + m.getName() + parameters));
            Check.holds(m + " throws nothing", m.getExceptionTypes().length == 0 && !Modifier.isStatic(m.getModifiers()));
        }
        Check.holds("there is each of the document's methods, but " + due, due.isEmpty());
        privateNames.retainAll(publicNames);
        Check.holds("no private method bears a public name, but " + privateNames, privateNames.isEmpty());
        return publicNames;
    }

    private static void fields(Class<?> face) {
        Set<String> constants = new TreeSet<>();
        for (Field f : face.getDeclaredFields()) {
            if (Modifier.isPublic(f.getModifiers())) {
                constants.add(f.getName());
                Check.holds(f + " is a constant", Modifier.isStatic(f.getModifiers())
                    && Modifier.isFinal(f.getModifiers()) && f.getType() == int.class);
            } else {
                Check.holds(f + " is private", Modifier.isPrivate(f.getModifiers()));
            }
        }
        Check.holds("the constants are " + constants, constants.toString().equals("[BAD, FULL, NONE, STATE]"));
        Check.due("NONE", JudgeHalves.NONE, -1000000);
        Check.due("BAD", JudgeHalves.BAD, -1000001);
        Check.due("STATE", JudgeHalves.STATE, -1000002);
        Check.due("FULL", JudgeHalves.FULL, -1000003);
    }

    private static void inside(Class<?> face, Set<String> publicNames) {
        Check.holds("some twelve classes at most", face.getDeclaredClasses().length <= 12);
        for (Class<?> c : face.getDeclaredClasses()) {
            int mods = c.getModifiers();
            Check.holds(c + " is static and not seen from outside",
                Modifier.isStatic(mods) && !Modifier.isPublic(mods) && !Modifier.isProtected(mods));
            int fields = 0;
            for (Field f : c.getDeclaredFields()) {
                fields += Modifier.isStatic(f.getModifiers()) ? 0 : 1;
                Check.holds(f + " is no state of the class",
                    !Modifier.isStatic(f.getModifiers()) || Modifier.isFinal(f.getModifiers()));
            }
            Check.holds(c + " has some twenty fields at most", fields <= 20);
            for (Method m : c.getDeclaredMethods()) {
                Check.holds(m + " takes seven parameters at most", m.getParameterCount() <= 7);
                Check.holds(m + " bears no public name", !publicNames.contains(m.getName()));
            }
        }
    }
}
