/** Promises 1, 12, 20, 22: a new object, and the constants. */
public final class NewObjectTest {
    public static void main(String[] args) {
        EdgeOrchard x = new EdgeOrchard();
        Check.due("second()", x.second(), 0);
        Check.due("fetches()", x.fetches(), 0);
        Check.due("origin()", x.origin(), 0);
        Check.end("NewObjectTest");
    }
}
