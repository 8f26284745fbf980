/** Runs every test of the project; the exit code is 1 if one fails. */
public final class AllTests {
    private AllTests() {
    }

    public static void main(String[] args) {
        FaceTests.run();
        ReadmeTests.run();
        TextTests.run();
        LookTests.run();
        ActionTests.run();
        WhatIfTests.run();
        ScriptTests.run();
        SlotTests.run();
        TermEdges.run();
        TextEdges.run();
        LookEdges.run();
        ActionEdges.run();
        WhatIfEdges.run();
        ScriptEdges.run();
        SlotEdges.run();
        Refusals.run();
        ModelTest.run();
        System.out.println(Check.passed + " passed, " + Check.failed + " failed");
        if (Check.failed > 0) {
            System.exit(1);
        }
    }
}
