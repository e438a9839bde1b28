import java.io.IOException;
import java.nio.file.Files;
import java.nio.file.Path;
import java.util.ArrayList;
import java.util.List;
import java.util.regex.Matcher;
import java.util.regex.Pattern;

/** What LANGUAGE.md rules out and a look at the text of the program can find. */
final class LanguageTest {
    private static final Path PROGRAM = Path.of("src", "main", "java", "TicketForge.java");

    private static final String[] RULED_OUT = {
        "->", "::", "\\bcatch\\b", "\\bfinally\\b", "\\bsynchronized\\b", "\\bassert\\b", "\\bpackage\\b",
        "\\bstatic\\s*\\{", "\\bprotected\\b", "\\bvolatile\\b", "\\bMAX_VALUE\\b", "\\bMIN_VALUE\\b",
        "\\w+Exact\\b", "\\bNaN\\b", "\\bhashCode\\b", "\\btoString\\b", "\\bgetMessage\\b", "\\bMap\\b",
        "\\bThread\\b", "\\bSystem\\b(?!\\.arraycopy)", "[^\\x00-\\x7f]",
    };

    private static final List<String> IMPORTS = List.of(
        "java.util.ArrayList", "java.util.Arrays", "java.util.Iterator", "java.util.List",
        "java.util.NoSuchElementException");

    private static final List<String> THROWN = List.of(
        "IllegalStateException", "IllegalArgumentException", "IndexOutOfBoundsException", "ArithmeticException",
        "UnsupportedOperationException", "NoSuchElementException", "RuntimeException");

    private LanguageTest() {
    }

    public static void main(String[] args) throws IOException {
        String text = Files.readString(PROGRAM);
        String code = text.replaceAll("//.*|/\\*(?s:.*?)\\*/", "").replaceAll("\"[^\"]*\"", "\"\"");
        for (String each : RULED_OUT) {
            Check.same(each, found(each, code), List.of());
        }
        for (String each : found("(?<=import )[\\w.]+(?=;)", code)) {
            Check.same("import of " + each, IMPORTS.contains(each), true);
        }
        for (String each : found("(?<=throw ).*", code)) {
            Matcher form = Pattern.compile("new (\\w+)\\((\"\")?\\);").matcher(each);
            Check.same("throw " + each, form.matches() && THROWN.contains(form.group(1)), true);
        }
        Check.finish("LanguageTest");
    }

    private static List<String> found(String pattern, String code) {
        List<String> all = new ArrayList<>();
        Matcher matcher = Pattern.compile(pattern).matcher(code);
        while (matcher.find()) {
            all.add(matcher.group());
        }
        return all;
    }
}
