import java.io.IOException;

/** Each sentence of the document, with the edges that it names: every one of them has a case of its own. */
public final class EdgesTest {
    public static void main(String[] args) throws IOException {
        Check c = new Check("EdgesTest");
        Document d = new Document(c);
        new EdgesOfTerms(c, d).all();
        new EdgesOfTaking(c, d).all();
        new EdgesOfGoing(c, d).all();
        new EdgesOfThought(c, d).all();
        new EdgesOfCalls(c, d).all();
        d.allSaid();
        c.end();
    }
}
