/** Runs all tests of boundary cases, and looks whether each part of the document's terms and promises is quoted by one. */
public final class EdgesTest {
    public static void main(String[] args) throws Exception {
        Edges e = new Edges();
        new EdgesStreet(e).all();
        new EdgesLine(e).all();
        new EdgesWords(e).all();
        new EdgesCells(e).all();
        new EdgesHouses(e).all();
        new EdgesWritten(e).all();
        new EdgesOrder(e).all();
        e.end();
    }
}
