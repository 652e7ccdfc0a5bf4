import java.lang.reflect.Constructor;
import java.lang.reflect.Field;
import java.lang.reflect.Method;
import java.lang.reflect.Modifier;
import java.util.Arrays;
import java.util.Set;
import java.util.TreeSet;

/** The class has the document's face and nothing else that can be seen from outside. */
public final class FaceTest {
    private static final String[] FACE = {
        "int feed(long,long,long)", "int read()", "int poet(int)", "int turn()", "int pass()", "boolean year(int)",
        "int entry(int,int,int)", "int word(int)", "int like(int,int,int)", "int liking(int,int)",
        "int verse(int,int,int,int)", "int breaks(int,int,int)", "int back()", "boolean worn(int,boolean)",
        "int type(int)", "int ends()", "int full(int)", "int can(int)", "int store(int,int,int)", "int best(int)",
        "int bestOf(int)", "int verseOf(int,int)", "int poetOf(int,int)", "int ruleOf(int,int)", "int count(int)",
    };

    public static void main(String[] args) {
        Check check = new Check();
        Class<?> face = LinkedVerse.class;
        check.same("public final", face.getModifiers(), Modifier.PUBLIC | Modifier.FINAL);
        Set<String> seen = new TreeSet<>();
        Set<String> names = new TreeSet<>();
        for (Method m : face.getDeclaredMethods()) {
            if (Modifier.isPrivate(m.getModifiers())) {
                continue;
            }
            String arguments = Arrays.toString(Arrays.stream(m.getParameterTypes()).map(Class::getName).toArray());
            String line = m.getReturnType() + " " + m.getName() + arguments.replace("[", "(").replace("]", ")").replace(", ", ",");
            seen.add(line);
            names.add(m.getName());
            check.same(line + " is public alone", m.getModifiers(), Modifier.PUBLIC);
        }
        for (Method m : face.getDeclaredMethods()) {
            boolean isHidden = Modifier.isPrivate(m.getModifiers());
            check.same(m + " bears no name of the face", isHidden && names.contains(m.getName()), false);
        }
        check.same("the methods " + seen, seen.equals(new TreeSet<>(Arrays.asList(FACE))), true);
        for (Field f : face.getDeclaredFields()) {
            boolean isFace = f.getName().equals("NONE");
            check.same("field " + f.getName(), Modifier.isPrivate(f.getModifiers()), !isFace);
            check.same("static is final: " + f.getName(),
                !Modifier.isStatic(f.getModifiers()) || Modifier.isFinal(f.getModifiers()), true);
        }
        Constructor<?>[] made = face.getDeclaredConstructors();
        check.same("one constructor", made.length, 1);
        check.same("it is public", made[0].getModifiers(), Modifier.PUBLIC);
        Class<?>[] inside = face.getDeclaredClasses();
        check.same("twelve classes at most", inside.length <= 11, true);
        for (Class<?> c : inside) {
            check.same(c + " is static", Modifier.isStatic(c.getModifiers()), true);
            check.same(c + " is not public", Modifier.isPublic(c.getModifiers()) || Modifier.isProtected(c.getModifiers()), false);
            for (Method m : c.getDeclaredMethods()) {
                check.same(m + " bears no name of the face", names.contains(m.getName()), false);
            }
            long fields = Arrays.stream(c.getDeclaredFields()).filter(f -> !Modifier.isStatic(f.getModifiers())).count();
            check.same(c + " has twenty fields at most", fields <= 20, true);
        }
        check.end();
    }
}
