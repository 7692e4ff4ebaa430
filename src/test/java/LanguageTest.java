import java.io.IOException;
import java.nio.file.Files;
import java.nio.file.Path;
import java.nio.file.Paths;

/**
 * Rules of ../shared/LANGUAGE.md, as far as they can be seen in the tree that javac makes of the class,
 * and the document's face. Argument: another file to look at, in the place of the class.
 */
public final class LanguageTest {
    public static void main(String[] args) throws IOException {
        Path file = Paths.get(args.length > 0 ? args[0] : "src/main/java/Treeletter.java");
        LanguageRules rules = new LanguageRules(file);
        rules.look(Files.readString(Paths.get("../shared/DOC.md")));
        System.out.println(rules.looks() + " looks at rules of the language, " + rules.wrong() + " wrong");
        if (rules.wrong() > 0) {
            System.exit(1);
        }
    }
}
