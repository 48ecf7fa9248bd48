import java.io.IOException;
import java.lang.reflect.Method;
import java.lang.reflect.Modifier;
import java.nio.charset.StandardCharsets;
import java.nio.file.Files;
import java.nio.file.Path;

/** What README.md tells of the use of the class: its lines of code answer what stands behind them. */
public final class ReadmeTest {
    private static final String[] SHOWN = {
        "ParrotJury jury = new ParrotJury();",
        "int rosa = jury.come(3, 2);          // memory 3, loud 2; her number is 0",
        "int kiko = jury.come(5, 4);          // his number is 1",
        "jury.listen(rosa, kiko);             // 1: ",
        "jury.whisper(kiko, 1234, 5);         // the court whispers a word, 5 sure; 0 was his word before",
        "int seen = jury.foresee(1, rosa);    // 1200: ",
        "int taken = jury.pass(1);            // 1: ",
        "int word = jury.parrot(rosa, 0);     // 1200: ",
        "int from = jury.half(rosa, false, 1); // 1: ",
        "int halves = jury.left(1234);        // 3: ",
    };

    public static void main(String[] args) throws IOException {
        Path file = Path.of(System.getProperty("project.root", "."), "README.md");
        String readme = new String(Files.readAllBytes(file), StandardCharsets.UTF_8);
        linesStand(readme);
        linesAnswer();
        eachCallIsNamed(readme);
        Due.end("ReadmeTest");
    }

    private static void linesStand(String readme) {
        int behind = 0;
        for (String line : SHOWN) {
            int at = readme.indexOf("\n" + line, behind);
            Due.holds("README.md shows, in its order: " + line, at >= 0);
            behind = Math.max(at, behind);
        }
    }

    private static void linesAnswer() {
        ParrotJury jury = new ParrotJury();
        int rosa = jury.come(3, 2);
        int kiko = jury.come(5, 4);
        Due.same("rosa", rosa, 0);
        Due.same("kiko", kiko, 1);
        Due.same("jury.listen(rosa, kiko)", jury.listen(rosa, kiko), 1);
        Due.same("jury.whisper(kiko, 1234, 5)", jury.whisper(kiko, 1234, 5), 0);
        Due.same("jury.foresee(1, rosa)", jury.foresee(1, rosa), 1200);
        Due.same("jury.pass(1)", jury.pass(1), 1);
        Due.same("jury.parrot(rosa, 0)", jury.parrot(rosa, 0), 1200);
        Due.same("jury.half(rosa, false, 1)", jury.half(rosa, false, 1), 1);
        Due.same("jury.left(1234)", jury.left(1234), 3);
        Due.same("a second call would end it", jury.listen(rosa, kiko), 0);
    }

    private static void eachCallIsNamed(String readme) {
        for (Method method : ParrotJury.class.getDeclaredMethods()) {
            if (Modifier.isPublic(method.getModifiers())) {
                Due.holds("README.md names " + method.getName(), readme.contains("`" + method.getName() + "("));
            }
        }
    }
}
