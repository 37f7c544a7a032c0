/**
 * For each sentence of 'Terms' and of the promises that names a boundary case a test of its own, that bears
 * the sentence's words; and no sentence of the document is left without one.
 */
public final class EdgesTest {
    public static void main(String[] args) throws Exception {
        TermsEdges.run();
        CoverEdges.run();
        SetupEdges.run();
        TicketEdges.run();
        ContractEdges.run();
        MachineEdges.run();
        Edge.compareWithDocument();
        Check.finish();
    }
}
