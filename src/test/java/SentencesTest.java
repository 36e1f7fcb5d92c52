import java.io.IOException;
import java.nio.file.Files;
import java.nio.file.Path;

/**
 * The Terms and promises sentence by sentence: each with its boundary cases, under its own words.
 *
 * Given the document as its second argument, the test also fails if a sentence that it stands for
 * is not there, or if one of the document's has no test here.
 */
public final class SentencesTest {
    private static final Due due = new Due();

    public static void main(String[] args) throws IOException {
        new DaysSentences(due).all();
        new TextsSentences(due).all();
        new FaultsSentences(due).all();
        new NoticesSentences(due).all();
        new IssuesSentences(due).all();
        new HoldsSentences(due).all();
        new ActsSentences(due).all();
        if (args.length > 1) {
            holdAgainst(new Document(Files.readString(Path.of(args[1]))));
        }
        due.end();
    }

    private static void holdAgainst(Document document) {
        due.sentences();
        due.part("the document");
        for (Due.Sentence sentence : due.sentences()) {
            due.is(sentence.section() + " has \"" + sentence.words() + "\"",
                    document.has(sentence.section(), sentence.words()), true);
        }
        for (String rest : document.untold()) {
            due.is("\"" + rest + "\" has no test", 1, 0);
        }
    }
}
