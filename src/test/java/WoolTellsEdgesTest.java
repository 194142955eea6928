import java.io.IOException;

/** The edges that the document names, by its own words; no sentence of the terms and promises is left out. */
public final class WoolTellsEdgesTest {
    private WoolTellsEdgesTest() {
    }

    public static void main(String[] args) throws IOException {
        Check check = new Check("WoolTellsEdgesTest");
        Document document = new Document();
        new RowEdges(check, document).look();
        new TextEdges(check, document).look();
        new ActEdges(check, document).look();
        new ForetoldEdges(check, document).look();
        new AskedEdges(check, document).look();
        for (String words : document.untested()) {
            check.dueTrue("a test of <" + words + "> stands here: this", false);
        }
        check.close();
    }
}
