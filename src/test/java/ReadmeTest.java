import java.io.IOException;
import java.nio.charset.StandardCharsets;
import java.nio.file.Files;
import java.nio.file.Path;
import java.util.List;
import java.util.NoSuchElementException;

/** README.md's run answers as the page says, line by line, and its texts are right. Run at the project's root. */
public final class ReadmeTest {
    private static final String THROWS = "throws NoSuchElementException";

    private final Check check = new Check("ReadmeTest");
    private final List<String> page;
    private final ClothWithMan cloth = new ClothWithMan();
    private int line;

    private ReadmeTest() throws IOException {
        page = Files.readAllLines(Path.of("README.md"), StandardCharsets.US_ASCII);
        line = page.indexOf("ClothWithMan cloth = new ClothWithMan();") + 1;
    }

    public static void main(String[] args) throws IOException {
        ReadmeTest test = new ReadmeTest();
        test.run();
        test.texts();
        test.check.close();
    }

    private void run() {
        check.yes("the page has a run", line > 0);
        write("0:300;150:150;199:101");
        says("cloth.told(9)", cloth.told(9));
        says("cloth.curve()", cloth.curve());
        says("cloth.told(9)", cloth.told(9));
        says("cloth.value(100)", cloth.value(100));
        says("cloth.house(2, 5, 20)", cloth.house(2, 5, 20));
        says("cloth.piece(3, 1, 0, 2)", cloth.piece(3, 1, 0, 2));
        says("cloth.truth(0)", cloth.truth(0));
        says("cloth.count(0, 205)", cloth.count(0, 205));
        says("cloth.likely(1)", cloth.likely(1));
        says("cloth.told(8)", cloth.told(8));
        says("cloth.row(0)", cloth.row(0));
        says("cloth.row(1)", cloth.row(1));
        write("w100");
        says("cloth.story()", cloth.story());
        write("");
        says("cloth.story()", cloth.story());
        write("w200");
        says("cloth.story()", cloth.story());
        says("cloth.odds(1)", cloth.odds(1));
        says("cloth.told(8)", cloth.told(8));
        says("cloth.row(0)", cloth.row(0));
        says("cloth.count(0, 2000)", cloth.count(0, 2000));
        says("cloth.woven(200)", cloth.woven(200));
        says("cloth.when(0, 2)", cloth.when(0, 2));
        says("cloth.row(3)", cloth.row(3));
        says("cloth.row(4)", answerOfRow(4));
        check.text("the run's end", "```", nextLine());
    }

    private void texts() {
        ClothWithMan other = new ClothWithMan();
        asThePageWrites(other, shown("- THE CURVE: `"));
        check.same("POINTS of the page's CURVE", 3, other.curve());
        asThePageWrites(other, shown("- A STORY: `"));
        check.same("the page's STORY", 0, other.story());
        check.same("its TERMS", 5, other.needs(0));
    }

    private String shown(String ahead) {
        for (String told : page) {
            if (told.startsWith(ahead)) {
                return told.substring(ahead.length(), told.indexOf('`', ahead.length()));
            }
        }
        return "?";
    }

    private void write(String text) {
        check.text("line " + (line + 1), "write(cloth, \"" + text + "\");", nextLine());
        asThePageWrites(cloth, text);
    }

    private void says(String call, Object answer) {
        String told = nextLine();
        check.text("line " + line, call, told.replaceAll(";.*", ""));
        check.text("line " + line + ", " + call, answer.toString(), told.replaceAll("^.*// ([^:]*).*$", "$1"));
    }

    private String nextLine() {
        line++;
        return line <= page.size() ? page.get(line - 1) : "";
    }

    private Object answerOfRow(int i) {
        try {
            return cloth.row(i);
        } catch (NoSuchElementException e) {
            return THROWS;
        }
    }

    /** The page's own way to write a text, sign by sign. */
    private static void asThePageWrites(ClothWithMan cloth, String text) {
        cloth.end(0);
        for (int i = 0; i < text.length(); i += 4) {
            int v = 0;
            for (int j = i; j < i + 4; j++) {
                v = v << 8 | (j < text.length() ? text.charAt(j) : ' ');
            }
            cloth.sign(v);
        }
        cloth.end(text.length());
    }
}
