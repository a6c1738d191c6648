/** Each sentence of the document that names an edge, in a test of its own: the smallest, the largest, the next ones outside. */
public final class EdgesTest {
    public static void main(String[] args) throws Exception {
        TermsEdges.run();
        TextEdges.run();
        WhatThereIsEdges.run();
        ActionEdges.run();
        UndoEdges.run();
        WhatWouldBeEdges.run();
        ScriptEdges.run();
        SimulateEdges.run();
        SaveSlotEdges.run();
        Refusals.run();
        Sentences.compare();
        Check.finish();
    }
}
