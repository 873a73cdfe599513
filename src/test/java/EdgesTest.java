/** Each sentence of the document that names a boundary case, with a test of its own. */
public final class EdgesTest {
    public static void main(String[] args) {
        Sentences s = new Sentences();
        new TermsEdges(s).all();
        new NightTermsEdges(s).all();
        new RefusalEdges(s).all();
        new SacksEdges(s).all();
        new TowerEdges(s).all();
        new TicksEdges(s).all();
        new NightsEdges(s).all();
        s.end();
    }
}
