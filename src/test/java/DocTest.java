import java.io.IOException;

/** The document, sentence by sentence, in the order in which it stands there. */
final class DocTest {
    public static void main(String[] args) throws IOException {
        Doc.open();
        DocWhole.says();
        DocRoad.says();
        DocTexts.says();
        DocSteps.says();
        DocBest.says();
        DocTold.says();
        DocHost.says();
        Doc.end();
        Check.end();
    }
}
