import java.io.IOException;
import java.nio.file.Files;
import java.nio.file.Path;

/** Runs every test of the project; told the path of the class, it looks at its language, too. */
final class AllTests {
    private AllTests() {
    }

    public static void main(String[] args) throws IOException {
        StoreTest.run();
        NightsTest.run();
        ShapesTest.run();
        CountsTest.run();
        GuessesTest.run();
        ChanceTest.run();
        ActsTest.run();
        RandomRunsTest.run();
        MachineTest.run();
        if (args.length > 0) {
            LanguageTest.run(Files.readString(Path.of(args[0])));
        }
        if (!Checks.end()) {
            System.exit(1);
        }
    }
}
