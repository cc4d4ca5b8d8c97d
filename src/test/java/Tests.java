import java.io.IOException;
import java.nio.file.Files;
import java.nio.file.Path;

/** Runs every test of the project: java Tests SOURCE DOCUMENT. */
public final class Tests {
    private Tests() {
    }

    public static void main(String[] arguments) throws IOException, IllegalAccessException {
        String source = Files.readString(Path.of(arguments[0]));
        String document = Files.readString(Path.of(arguments[1]));
        SockTests.run();
        ApplicationTests.run();
        PairTests.run();
        DrawerTests.run();
        DayTests.run();
        OutputTests.run();
        CommandTests.run();
        HistoryTests.run();
        FaceTests.run(document);
        LanguageTests.run(source);
        RandomRuns.run();
        System.out.println("expectations: " + Expect.passed + " passed, " + Expect.failed + " failed");
        if (Expect.failed > 0 || Expect.passed == 0) {
            System.exit(1);
        }
    }
}
