import java.io.IOException;
import java.nio.charset.StandardCharsets;
import java.nio.file.Files;
import java.nio.file.Path;
import java.util.regex.Matcher;
import java.util.regex.Pattern;

/** The example of README.md, so that what it tells its reader holds. */
final class ReadmeTest {
    private static final Path README = Path.of("README.md");
    private static final Path THIS = Path.of("src/test/java/ReadmeTest.java");

    private ReadmeTest() {
    }

    static void run() throws IOException {
        example();
        linesOfReadme();
    }

    private static void example() {
        OrchestraSeason season = new OrchestraSeason();
        // "days 4;hall main 1; "
        season.append(0x64617973, 0x20343b68, 0x616c6c20, 0x6d61696e, 0x20313b20);
        // "player ann 0 50 alto"
        season.append(0x706c6179, 0x65722061, 0x6e6e2030, 0x20353020, 0x616c746f);
        // ";work solo 1 0 3 20 "
        season.append(0x3b776f72, 0x6b20736f, 0x6c6f2031, 0x20302033, 0x20323020);
        // "alto;               "
        season.append(0x616c746f, 0x3b202020, 0x20202020, 0x20202020, 0x20202020);
        int error = season.parse(80);
        int rehearsal = season.rehearse(0, 2, 0);
        int concert = season.concert(0, 4, 1);
        int player = season.cast(concert, 0, 0);
        int reason = season.whyNotMove(concert, 0);
        int costs = season.costs(3);
        int left = season.undo();

        Checks.due("README.md's error", 0, error);
        Checks.due("README.md's rehearsal", 0, rehearsal);
        Checks.due("README.md's concert", 1, concert);
        Checks.due("README.md's player", 0, player);
        Checks.due("README.md's reason", 4, reason);
        Checks.due("README.md's costs", 140, costs);
        Checks.due("README.md's left", 1, left);
    }

    /** Each line of README.md's Java stands in this file, too; what it says behind "//" aside. */
    private static void linesOfReadme() throws IOException {
        String own = Files.readString(THIS, StandardCharsets.UTF_8);
        Matcher block = Pattern.compile("(?s)```java\n(.*?)```")
                .matcher(Files.readString(README, StandardCharsets.UTF_8));
        Checks.dueTrue("README.md has an example", block.find());
        for (String line : block.group(1).split("\n")) {
            String code = line.replaceFirst(";\\s*//.*", ";").strip();
            Checks.dueTrue("README.md's line \"" + code + "\" stands in ReadmeTest", own.contains(code + "\n"));
        }
    }
}
