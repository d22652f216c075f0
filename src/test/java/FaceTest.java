import java.io.IOException;
import java.lang.reflect.Constructor;
import java.lang.reflect.Field;
import java.lang.reflect.Method;
import java.lang.reflect.Modifier;
import java.nio.charset.StandardCharsets;
import java.nio.file.Files;
import java.nio.file.Path;
import java.util.NoSuchElementException;
import java.util.Set;
import java.util.TreeSet;
import java.util.regex.Matcher;
import java.util.regex.Pattern;

/**
 * The class has the public face of the document, told in its order under what stands ahead of the calls, and no
 * other member that can be seen from outside. Run at the project's root.
 */
public final class FaceTest {
    private static final String[] FACE = {
        "boolean again(int)", "boolean count(int,int)", "boolean end(int)",
        "boolean house(int,int,int)", "boolean how(int,int,int)", "boolean keep(int)",
        "boolean wanted(int,int,int,int)", "int apart(int)", "int between(int,int,int)",
        "int counted(int)", "int curve()", "int draw(int)", "int faith(int,int)", "int fewest(int)",
        "int first(int)", "int knew(int,int)", "int like(int)", "int likely(int)",
        "int likeness(int,int,int)", "int look(int,int)", "int lot(int)",
        "int mend(int,int,int,int,int)", "int must(int,int,int)", "int needs(int)", "int next(int)",
        "int odd(int)", "int odds(int)", "int omits(int)", "int open(int,int)",
        "int paper(int,boolean,int)", "int parts(int,int)", "int piece(int,int,int,int)",
        "int seed(int)", "int sheet(int,int,int,int)", "int sign(int)", "int slope(int)",
        "int story()", "int stuff(int,int,int,int,int,int)", "int thread(int,int,int)",
        "int told(int)", "int truth(int)", "int value(int)", "int way(int,int)", "int when(int,int)",
        "int where(int)", "int within(int,int)", "int would(int,int,int)", "int woven(int)",
        "int years(int,int)", "int younger(int,int,int)", "long row(int)",
    };
    private static final Path FILE = Path.of("src/main/java/ClothWithMan.java");
    private static final String[] IN_ORDER = {
        "the cloth: sign(v) end(n) curve() value(year) woven(year) mend(x,y,wide,high,year)"
            + " stuff(x,y,wide,high,year,share) way(way,v) house(house,slip,span) sheet(kind,n,f,step)"
            + " thread(x,y,way)",
        "pieces: piece(x,y,way,house) truth(piece) count(piece,number) draw(piece) counted(piece)",
        "years: likeness(number,value,span) years(number,span) likely(pieces) within(pieces,p)"
            + " between(pieces,from,to)",
        "houses that differ: apart(pieces) slope(pieces) lot(pieces) odd(pieces)",
        "younger stuff: younger(year,stuff,number) must(stuff,share,number)",
        "stories: story() faith(story,v) would(story,piece,year) paper(year,seen,trust) odds(pieces)"
            + " when(story,pieces) first(pieces) needs(story)",
        "plans: parts(piece,year) next(year) fewest(year) where(year)",
        "hidden pieces, hows, who wanted it: like(weave) knew(weave,k) how(how,needs,bars) open(are,not)"
            + " look(are,not) wanted(person,story,papers,pieces) omits(person)",
        "kept: seed(v) keep(i) again(i) told(what) row(i)",
    };
    private static final Set<String> THROWING = Set.of("truth", "draw", "counted", "would", "row");

    public static void main(String[] args) throws IOException {
        Check check = new Check("FaceTest");
        Class<?> face = ClothWithMan.class;
        check.yes("public and final", Modifier.isPublic(face.getModifiers())
                && Modifier.isFinal(face.getModifiers()));

        Set<String> due = new TreeSet<>(Set.of(FACE));
        Set<String> publicNames = new TreeSet<>();
        Set<String> privateNames = new TreeSet<>();
        Set<String> found = new TreeSet<>();
        for (Method method : face.getDeclaredMethods()) {
            if (Modifier.isPrivate(method.getModifiers())) {
                privateNames.add(method.getName());
            } else {
                found.add(told(method));
                publicNames.add(method.getName());
            }
        }
        check.text("methods", due.toString(), found.toString());
        privateNames.retainAll(publicNames);
        check.text("private methods that bear a public name", "[]", privateNames.toString());

        Constructor<?>[] constructors = face.getDeclaredConstructors();
        check.same("constructors", 1, constructors.length);
        check.same("parameters of it", 0, constructors[0].getParameterCount());
        for (Field field : face.getDeclaredFields()) {
            if (!Modifier.isPrivate(field.getModifiers())) {
                check.text("a field to be seen", "NONE", field.getName());
            }
        }
        check.same("NONE", -1, ClothWithMan.NONE);
        throwsClauses(check);
        order(check);
        check.close();
    }

    private static void throwsClauses(Check check) {
        for (Method method : ClothWithMan.class.getMethods()) {
            if (method.getDeclaringClass() != ClothWithMan.class) {
                continue;
            }
            Class<?>[] thrown = method.getExceptionTypes();
            check.same("what " + method.getName() + " says it throws",
                    THROWING.contains(method.getName()) ? 1 : 0, thrown.length);
            check.yes("it is NoSuchElementException",
                    thrown.length == 0 || thrown[0] == NoSuchElementException.class);
        }
    }

    private static void order(Check check) throws IOException {
        String text = new String(Files.readAllBytes(FILE), StandardCharsets.ISO_8859_1);
        Matcher line = Pattern.compile("(?m)^    (?:// ---- (.*)|public \\w+ (\\w+)\\((.*?)\\).*)$").matcher(text);
        StringBuilder found = new StringBuilder();
        int calls = 0;
        while (line.find() && calls < FACE.length) {
            if (line.group(1) != null) {
                found.append('\n').append(line.group(1)).append(':');
            } else {
                String names = line.group(3).replaceAll("\\w+ (\\w+)", "$1").replace(" ", "");
                found.append(' ').append(line.group(2)).append('(').append(names).append(')');
                calls++;
            }
        }
        check.text("the calls in their order", "\n" + String.join("\n", IN_ORDER), found.toString());
    }

    private static String told(Method method) {
        StringBuilder out = new StringBuilder();
        out.append(method.getReturnType().getSimpleName()).append(' ').append(method.getName());
        out.append('(');
        String between = "";
        for (Class<?> parameter : method.getParameterTypes()) {
            out.append(between).append(parameter.getSimpleName());
            between = ",";
        }
        return out.append(')').toString();
    }
}
