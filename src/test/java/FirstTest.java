/** A new object answers as the document says. */
public final class FirstTest {
    public static void main(String[] args) {
        Check c = new Check();
        OnTiptoe x = new OnTiptoe();
        c.due("count(0)", x.count(0), 0);
        c.end("FirstTest");
    }
}
