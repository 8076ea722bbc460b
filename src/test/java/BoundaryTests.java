/** A test for each sentence of the document, above all for those that name a boundary case. */
public final class BoundaryTests {
    public static void main(String[] args) throws Exception {
        Bench.readDocument(args.length > 1 ? args[1] : "../shared/DOC.md");
        DescriptionCases.run();
        AutomatonCases.run();
        WordCases.run();
        AtomCases.run();
        OperationCases.run();
        ShareCases.run();
        SaveCases.run();
        Bench.checkEachSentenceHasATest();
        System.exit(Bench.end());
    }
}
