import java.util.List;

/**
 * The boundary cases. Each sentence of the document that names one has a test of its own, which quotes it;
 * a sentence that no test quotes is told here to name none.
 */
public final class BoundsTest {
    private static final List<String> WITHOUT_BOUNDARY = List.of(
        "Quest ledger: quests with steps that can be done in any order that their items and the steps ahead of them let, items that are used up, "
            + "needed or given, goals over steps, tries that fail by told or made draws, steps that break and quests that are lost;",
        "ways that can be gone are found, the shortest and the safest one, and what is lacking.",
        "what later calls answer is free.",
        "Conventions:",
        "All numbers are integers, except where double and float are named.",
        "Items and quests:",
        "A step is done or not;",
        "A goal holds or not: a step holds if it is done;",
        "Trying:",
        "Ways:",
        "Setup text:",
        "Its grammar is:",
        "Changes:",
        "`length`: the number of bytes to read",
        "Returns this number.",
        "Returns its stock.",
        "Returns this.",
        "Returns this amount.",
        "Tells why a step cannot be tried.",
        "Asks the goal of a quest.",
        "Tries a step.",
        "Computes a checksum.",
        "Returns the checksum.");

    public static void main(String[] args) {
        TermsBounds.all();
        TextBounds.all();
        AskBounds.all();
        WaysBounds.all();
        ChangesBounds.all();
        Sentence.compareWithDocument(WITHOUT_BOUNDARY);
        Check.end();
    }
}
