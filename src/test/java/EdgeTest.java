/**
 * The document, sentence by sentence: what it says of too small, too large, empty, full, wrapped around and refused.
 * Each group quotes the words that its checks are about; words that none quotes are told at the end.
 */
public final class EdgeTest {
    public static void main(String[] args) {
        Checks.begin("EdgeTest");
        EdgesOfTape.check();
        EdgesOfText.check();
        EdgesOfPlan.check();
        EdgesOfMail.check();
        EdgesOfHandling.check();
        EdgesOfStrangers.check();
        EdgesOfImages.check();
        EdgesOfSheets.check();
        EdgesOfRefusal.check();
        Checks.tellUnquoted();
        Checks.finish("EdgeTest");
    }
}
