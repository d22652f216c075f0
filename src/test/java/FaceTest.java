import java.lang.reflect.Constructor;
import java.lang.reflect.Field;
import java.lang.reflect.Method;
import java.lang.reflect.Modifier;
import java.util.Set;
import java.util.TreeSet;

/** The class has the public face of the document and no other member that can be seen from outside. */
public final class FaceTest {
    private static final String[] FACE = {
        "boolean again(int)", "boolean count(int,int)", "boolean end(int)",
        "boolean house(int,int,int)", "boolean how(int,int,int)", "boolean keep(int)",
        "boolean wanted(int,int,int,int)", "int apart(int)", "int between(int,int,int)",
        "int counted(int)", "int curve()", "int draw(int)", "int faith(int,int)", "int fewest(int)",
        "int first(int)", "int knew(int,int)", "int like(int)", "int likely(int)",
        "int likeness(int,int,int)", "int look(int,int)", "int lot(int)",
        "int mend(int,int,int,int,int)", "int must(int,int,int)", "int needs(int)", "int next(int)",
        "int odd(int)", "int odds(int)", "int omits(int)", "int open(int,int)",
        "int paper(int,boolean,int)", "int parts(int,int)", "int piece(int,int,int,int)",
        "int seed(int)", "int sheet(int,int,int,int)", "int sign(int)", "int slope(int)",
        "int story()", "int stuff(int,int,int,int,int,int)", "int thread(int,int,int)",
        "int told(int)", "int truth(int)", "int value(int)", "int way(int,int)", "int when(int,int)",
        "int where(int)", "int within(int,int)", "int would(int,int,int)", "int woven(int)",
        "int years(int,int)", "int younger(int,int,int)", "long row(int)",
    };

    public static void main(String[] args) {
        Check check = new Check("FaceTest");
        Class<?> face = ClothWithMan.class;
        check.yes("public and final", Modifier.isPublic(face.getModifiers())
                && Modifier.isFinal(face.getModifiers()));

        Set<String> due = new TreeSet<>(Set.of(FACE));
        Set<String> publicNames = new TreeSet<>();
        Set<String> privateNames = new TreeSet<>();
        Set<String> found = new TreeSet<>();
        for (Method method : face.getDeclaredMethods()) {
            if (Modifier.isPrivate(method.getModifiers())) {
                privateNames.add(method.getName());
            } else {
                found.add(told(method));
                publicNames.add(method.getName());
            }
        }
        check.text("methods", due.toString(), found.toString());
        privateNames.retainAll(publicNames);
        check.text("private methods that bear a public name", "[]", privateNames.toString());

        Constructor<?>[] constructors = face.getDeclaredConstructors();
        check.same("constructors", 1, constructors.length);
        check.same("parameters of it", 0, constructors[0].getParameterCount());
        for (Field field : face.getDeclaredFields()) {
            if (!Modifier.isPrivate(field.getModifiers())) {
                check.text("a field to be seen", "NONE", field.getName());
            }
        }
        check.same("NONE", -1, ClothWithMan.NONE);
        check.close();
    }

    private static String told(Method method) {
        StringBuilder out = new StringBuilder();
        out.append(method.getReturnType().getSimpleName()).append(' ').append(method.getName());
        out.append('(');
        String between = "";
        for (Class<?> parameter : method.getParameterTypes()) {
            out.append(between).append(parameter.getSimpleName());
            between = ",";
        }
        return out.append(')').toString();
    }
}
