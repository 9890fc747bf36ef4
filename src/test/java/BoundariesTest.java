import java.io.IOException;

/**
 * Each sentence of the Terms and of promises 1 to 31 has a test of its own, with what lies on either
 * side of each boundary that it names; that none is left out is checked against the document.
 */
public final class BoundariesTest {
    public static void main(String[] args) throws IOException {
        Bounds bounds = new Bounds();
        new PlansBounds(bounds).run();
        new RulesBounds(bounds).run();
        new BeliefsBounds(bounds).run();
        LotsBounds lots = new LotsBounds(bounds);
        DrawerBounds drawer = new DrawerBounds(bounds);
        bounds.part("==== IV.", "## Promise 1:");
        lots.terms();
        drawer.terms();
        bounds.allQuoted();
        lots.run();
        drawer.run();
        bounds.end("BoundariesTest");
    }
}
