import java.io.IOException;
import java.nio.file.Files;
import java.nio.file.Path;

/** Runs every test of the project; told the paths of the class, the document and README.md, it looks at them, too. */
final class AllTests {
    private AllTests() {
    }

    public static void main(String[] args) throws IOException {
        StoreTest.run();
        NightsTest.run();
        ShapesTest.run();
        CountsTest.run();
        GuessesTest.run();
        ChanceTest.run();
        ActsTest.run();
        Edges.run();
        RandomRunsTest.run();
        MachineTest.run();
        RoomTest.run();
        if (args.length > 2) {
            Path document = Path.of(args[1]);
            LanguageTest.run(Files.readString(Path.of(args[0])), Files.readString(document));
            Edges.holdAgainst(document);
            ReadmeTest.run(Files.readString(Path.of(args[2])));
        }
        if (!Checks.end()) {
            System.exit(1);
        }
    }
}
