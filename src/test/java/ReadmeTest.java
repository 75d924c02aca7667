import java.io.IOException;
import java.nio.file.Files;
import java.nio.file.Path;
import java.util.List;

/** The example of README.md: its lines are those below, and they answer what it tells. */
public final class ReadmeTest {
    private static final Check check = new Check("ReadmeTest");
    private static final Path README = Path.of("README.md");
    private static final Path HERE = Path.of("src/test/java/ReadmeTest.java");

    public static void main(String[] args) throws IOException {
        example();
        isInTheReadme();
        check.end();
    }

    private static void example() {
        Subakhall hill = new Subakhall();
        int society = hill.society(1, 10, 0, 210);
        int field = hill.field(society, 1, 60);
        check.due("the GATE was shut", hill.gate(field, true), false);
        check.due("the DAY", hill.day(20, 25, 0), 1);
        check.due("WATER", hill.puddle(field), 16);
        hill.help(field, field);
        hill.help(field, field);
        check.due("HELP", hill.help(field, field), 3);
        check.due("planted on the DAY", hill.plant(field, 0), 1);
        hill.day(3, 25, 0);
        int days = hill.ripeIn(20);
        check.due("RIPE in", days, 5);
        for (int i = 0; i < days; i++) {
            hill.day(3, 25, 0);
        }
        int told = hill.cut(field);
        check.due("the CUT", told, 25);
        check.due("at least", hill.thought(field, false), 23);
        check.due("at most", hill.thought(field, true), 28);
        int yielded = hill.harvest(field, false);
        check.due("the YIELD", yielded, 26);
        check.due("a tenth", hill.ofSociety(society, 2), 2);
        check.due("COINS", hill.sell(field, 24), 44);
    }

    /** Each call of the README's example is a call of the one above. */
    private static void isInTheReadme() throws IOException {
        String readme = Files.readString(README);
        String block = readme.substring(readme.indexOf("```java") + 7);
        List<String> lines = block.substring(0, block.indexOf("```")).lines().toList();
        String here = Files.readString(HERE);
        int calls = 0;
        for (String line : lines) {
            String code = line.replaceAll("//.*", "").strip();
            String call = code.replaceAll(";$", "");
            if (!call.isEmpty()) {
                check.due("is tested: " + call, here.contains(call), true);
                calls++;
            }
        }
        check.due("README.md has an example", calls >= 10, true);
    }
}
