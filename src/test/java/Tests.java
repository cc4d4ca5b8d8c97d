import java.io.IOException;
import java.nio.file.Files;
import java.nio.file.Path;

/** Runs every test of the project: java Tests SOURCE DOCUMENT README. */
public final class Tests {
    private Tests() {
    }

    public static void main(String[] arguments) throws IOException, ReflectiveOperationException {
        String source = Files.readString(Path.of(arguments[0]));
        String document = Files.readString(Path.of(arguments[1]));
        Document.read(document);
        SockTests.run();
        ApplicationTests.run();
        ResidentTests.run();
        PairTests.run();
        DrawerTests.run();
        TreatyTests.run();
        DayTests.run();
        TotalTests.run();
        CommandTests.run();
        HistoryTests.run();
        TermTests.run();
        FormTests.run();
        ReasonTests.run();
        RefusalTests.run();
        FaceTests.run(document, source);
        LanguageTests.run(source);
        RoomTests.run();
        ReadmeTests.run(Path.of(arguments[2]));
        RandomRuns.run();
        everySentence();
        System.out.println("expectations: " + Expect.passed + " passed, " + Expect.failed + " failed");
        if (Expect.failed > 0 || Expect.passed == 0) {
            System.exit(1);
        }
    }

    /** Every sentence of the document that tells something has been tested. */
    private static void everySentence() {
        Expect.promise(0);
        Expect.holds(Document.size() > 300, "the sentences of the document are not found");
        for (String sentence : Document.untested()) {
            Expect.holds(false, "no test: " + sentence);
        }
    }
}
