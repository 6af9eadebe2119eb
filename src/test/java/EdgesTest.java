import java.io.IOException;

/** Each sentence of the document that names a boundary case has a test of its own. */
public final class EdgesTest {
    public static void main(String[] args) throws IOException {
        TermsEdges.all();
        RefusedEdges.all();
        PeopleEdges.all();
        TextsEdges.all();
        StepsEdges.all();
        WouldBeEdges.all();
        VoicesEdges.all();
        SheetsEdges.all();
        ToldEdges.all();
        Edge.compareWithDocument();
        Due.end();
    }
}
