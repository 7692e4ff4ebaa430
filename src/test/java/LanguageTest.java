import java.io.IOException;
import java.lang.reflect.Method;
import java.lang.reflect.Modifier;
import java.nio.file.Files;
import java.nio.file.Paths;
import java.util.ArrayList;
import java.util.HashSet;
import java.util.List;
import java.util.Set;
import java.util.regex.Matcher;
import java.util.regex.Pattern;

/** Some rules of ../shared/LANGUAGE.md that can be seen from the text of the class and from its face. */
public final class LanguageTest {
    private static int wrong;

    private static void need(boolean ok, String what) {
        if (!ok) {
            wrong++;
            System.out.println("rule: " + what);
        }
    }

    public static void main(String[] args) throws IOException {
        String text = Files.readString(Paths.get("src/main/java/Treeletter.java"));
        String code = text.replaceAll("(?s)/\\*.*?\\*/", "").replaceAll("//[^\n]*", "");
        String bare = code.replaceAll("'(\\\\.|[^'\\\\])'", "' '").replaceAll("\"(?:[^\"\\\\\n]|\\\\.)*+\"", "\"\"");
        for (String no : new String[] {"import ", "package ", "->", "::", "catch", "finally", "synchronized", "assert ",
            "instanceof", "while (true)", "for (;;)", "Object", "System.out", "protected ", "\" +", "+ \""}) {
            need(!bare.contains(no), "there is: " + no);
        }
        need(text.chars().allMatch(c -> c == 10 || c >= 32 && c < 127), "a sign that is no plain one");
        Set<String> faces = face();
        int classes = 0;
        String name = "";
        int start = 0;
        List<String> lines = new ArrayList<>(List.of(bare.split("\n")));
        Pattern method = Pattern.compile("^( {4,8})(?:\\w+ )*?(?:int|long|boolean|void|String|Tree|[A-Z]\\w+) (\\w+)\\((.*)");
        for (int i = 0; i < lines.size(); i++) {
            String l = lines.get(i);
            if (l.contains("class ")) {
                classes++;
            }
            Matcher m = method.matcher(l);
            if (m.find() && !l.trim().startsWith("return ") && !l.endsWith(";")) {
                name = m.group(2);
                start = i;
                need(m.group(3).split(",").length <= 7, "too many parameters: " + name);
                need(l.contains("public ") || !faces.contains(name), "a name of the face: " + name);
            }
            if (l.equals("    }") || l.equals("        }")) {
                need(start == 0 || i - start < 60, "too long: " + name);
                start = 0;
            }
        }
        need(classes <= 12, classes + " classes");
        System.out.println("rules of the language, " + wrong + " wrong");
        if (wrong > 0) {
            System.exit(1);
        }
    }

    private static Set<String> face() {
        Set<String> names = new HashSet<>();
        int calls = 0;
        for (Method m : Treeletter.class.getDeclaredMethods()) {
            if (Modifier.isPublic(m.getModifiers())) {
                names.add(m.getName());
                calls++;
            } else {
                need(Modifier.isPrivate(m.getModifiers()), "neither public nor private: " + m.getName());
            }
        }
        need(calls == 34, calls + " public methods");
        return names;
    }
}
