import java.io.IOException;

/** Each sentence of the document that names a boundary case, by a test of its own; and that none was left out. */
public final class EdgeTest {
    private EdgeTest() {
    }

    public static void main(String[] args) throws IOException {
        tellAll();
        Edges.close();
        Calls.close("EdgeTest");
    }

    static void tellAll() throws IOException {
        Edges.open();
        TextEdges.tell();
        YearEdges.tell();
        BenchEdges.tell();
        CountyEdges.tell();
        LogEdges.tell();
    }
}
