import java.io.IOException;
import java.nio.charset.StandardCharsets;
import java.nio.file.Files;
import java.nio.file.Path;
import java.util.regex.Pattern;

/** Some rules of LANGUAGE.md that can be read off the text of the class. */
public final class LanguageTest {
    private static final int LONGEST_METHOD = 60;
    private static final String[] NOT_THERE = {
        "\\bpackage\\b", "\\bimport\\b", "->", "::", "\\btry\\b", "\\bcatch\\b", "\\bfinally\\b", "\\bassert\\b",
        "\\bsynchronized\\b", "\\bprotected\\b", "static \\{", "\\bvar\\b", "\\bNaN\\b", "\\bThread\\b",
        "System\\.(?!arraycopy)", "Math\\.(?!min|max)", "\\bequals\\b", "\\bhashCode\\b", "\\btoString\\b",
        "\\bvolatile\\b", "while \\(true\\)", "for \\(;;\\)", "\\[\\]\\[\\]\\[\\]", "Exact\\(",
    };

    public static void main(String[] args) throws IOException {
        String root = System.getProperty("project.root", ".");
        byte[] bytes = Files.readAllBytes(Path.of(root, "src", "main", "java", "ParrotJury.java"));
        String code = new String(bytes, StandardCharsets.ISO_8859_1);
        for (String pattern : NOT_THERE) {
            Due.holds("there is no " + pattern, !Pattern.compile(pattern).matcher(code).find());
        }
        for (byte sign : bytes) {
            if (sign != '\n' && (sign < 32 || sign > 126)) {
                Due.holds("all signs are plain", false);
            }
        }
        thrownAreThose(code);
        methodsAreShort(code.split("\n"));
        Due.end("LanguageTest");
    }

    private static void thrownAreThose(String code) {
        int all = code.split("\\bthrow\\b", -1).length - 1;
        int right = code.split(
            "\\bthrow new (IndexOutOfBounds|IllegalArgument|IllegalState)Exception\\(\"[^\"]*\"\\);", -1).length - 1;
        Due.same("throws that are written as they may be", right, all);
    }

    /** A method begins in a line that ends with a brace and ends where a brace stands as deep. */
    private static void methodsAreShort(String[] lines) {
        for (int depth = 4; depth <= 8; depth += 4) {
            String pad = " ".repeat(depth);
            int begun = -1;
            for (int i = 0; i < lines.length; i++) {
                boolean isHead = lines[i].startsWith(pad) && !lines[i].startsWith(pad + " ") && lines[i].endsWith("{");
                if (isHead) {
                    begun = lines[i].contains(" class ") ? -1 : i;
                } else if (lines[i].equals(pad + "}") && begun >= 0) {
                    Due.holds("the method in line " + (begun + 1) + " is short", i - begun <= LONGEST_METHOD);
                    begun = -1;
                }
            }
        }
    }
}
