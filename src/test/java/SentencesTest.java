import java.io.IOException;
import java.nio.file.Files;
import java.nio.file.Path;

/**
 * The document sentence by sentence: each one that names an edge has rows of its own. Terms has those
 * ahead of the first promise, Calls those of the promises, Refusals what refused calls leave as it was,
 * Stays what the others leave as it was.
 */
public final class SentencesTest {
    private static final Path DOCUMENT = Path.of("../shared/DOC.md");

    public static void main(String[] args) throws IOException {
        Rows rows = new Rows();
        new Terms(rows).all();
        new Calls(rows).all();
        new Refusals(rows).all();
        new Stays(rows).all();
        if (Files.exists(DOCUMENT)) for (String s : rows.unsaid(DOCUMENT)) System.out.println("no row shows: " + s);
        System.out.println(rows.wrong() == 0 ? rows.number() + " answers are as due" : rows.wrong() + " answers are wrong");
        if (rows.wrong() != 0) System.exit(1);
    }
}
