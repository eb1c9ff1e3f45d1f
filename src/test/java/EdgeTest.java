import java.io.IOException;
import java.nio.file.Files;
import java.nio.file.Path;

/** Each sentence of the document that names a boundary case, by a test of its own. */
final class EdgeTest {
    public static void main(String[] args) throws IOException {
        Path document = Path.of(System.getProperty("document", "../shared/DOC.md"));
        if (Files.exists(document)) {
            Edge.readDocument(document);
        } else {
            System.out.println("no " + document + ": the words of the edges are not compared with it");
        }
        EdgesOfTokens.all();
        EdgesOfFaults.all();
        EdgesOfThings.all();
        EdgesOfWork.all();
        EdgesOfServices.all();
        EdgesOfAlarms.all();
        EdgesOfTicks.all();
        EdgesOfAnswers.all();
        Edge.checkAllTold();
        if (args.length > 0) {
            Edge.showUntold();
        }
        Check.end("EdgeTest");
    }
}
