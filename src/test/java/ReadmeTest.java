import java.io.IOException;
import java.nio.file.Files;
import java.nio.file.Path;
import java.util.regex.Matcher;
import java.util.regex.Pattern;

/** The calls that README.md shows answer what it says behind them. */
public final class ReadmeTest {
    private static final Pattern SHOWN = Pattern.compile("^w\\.(\\w+\\(.*\\)); *// (-?\\w+)");

    public static void main(String[] args) throws IOException {
        Script w = new Script("README.md");
        for (String line : Files.readAllLines(Path.of("README.md"))) {
            Matcher parts = SHOWN.matcher(line);
            if (parts.find()) {
                w.run(parts.group(1).replace("BirthWeeks.", "") + " = " + parts.group(2));
            }
            Due.holds("README.md says what is answered: " + line, parts.reset().find() || !line.startsWith("w."));
        }
        Due.end();
    }
}
