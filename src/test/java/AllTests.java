import java.io.IOException;
import java.nio.file.Files;
import java.nio.file.Path;

/** Runs every test of the project; told the paths of the class and of the document, it looks at both, too. */
final class AllTests {
    private AllTests() {
    }

    public static void main(String[] args) throws IOException {
        StoreTest.run();
        NightsTest.run();
        ShapesTest.run();
        CountsTest.run();
        GuessesTest.run();
        ChanceTest.run();
        ActsTest.run();
        Edges.run();
        RandomRunsTest.run();
        MachineTest.run();
        RoomTest.run();
        if (args.length > 1) {
            Path document = Path.of(args[1]);
            LanguageTest.run(Files.readString(Path.of(args[0])), Files.readString(document));
            Edges.holdAgainst(document);
        }
        if (!Checks.end()) {
            System.exit(1);
        }
    }
}
