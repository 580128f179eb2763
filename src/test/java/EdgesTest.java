/** Each sentence of the document, at its edges: what is just inside, what is just outside, and what stays then. */
public final class EdgesTest {
    private EdgesTest() {
    }

    public static void main(String[] args) {
        InputEdges.run();
        RankEdges.run();
        RelationEdges.run();
        GuessEdges.run();
        CertificateEdges.run();
        ChangeEdges.run();
        OutputEdges.run();
        ThrowEdges.run();
        Edge.everySentenceIsQuoted();
        Check.end();
    }
}
