/** The sentences of the document that name a boundary case, a test for each; each file has some promises' tests. */
final class EdgeTests {
    private static final Check CHECK = new Check();
    private static final int PROMISES = 43;

    public static void main(String[] args) throws Exception {
        Edges edges = new Edges(CHECK);
        Class<?>[] all = {NumberEdges.class, SpectraEdges.class, MixingEdges.class, SightEdges.class, SolidEdges.class,
            RecipeEdges.class, BatchEdges.class, CorrectEdges.class, KeepingEdges.class, UndoEdges.class};
        for (Class<?> tests : all) {
            edges.run(tests);
        }
        edges.allWereRun(PROMISES);
        CHECK.end("EdgeTests");
    }

    /** The files' own. */
    static Check check() {
        return CHECK;
    }
}
