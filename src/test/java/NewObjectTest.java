/** Promise 1: a new object, and the constants. */
public final class NewObjectTest {
    private static final Class<IndexOutOfBoundsException> NO_SUCH = IndexOutOfBoundsException.class;

    private static void hasNothing() {
        EdgeOrchard x = new EdgeOrchard();
        Check.due("second()", x.second(), 0);
        Check.due("fetches()", x.fetches(), 0);
        Check.due("origin()", x.origin(), 0);
        Check.throwsDue("copies(0)", NO_SUCH, () -> x.copies(0));
        Check.throwsDue("update(0)", NO_SUCH, () -> x.update(0));
        Check.throwsDue("answer(0, 0)", NO_SUCH, () -> x.answer(0, 0));
        Check.throwsDue("isDone(0)", NO_SUCH, () -> x.isDone(0) ? 1 : 0);
        Check.due("down(false)", x.down(false), false);
        Check.due("page(1, 0, 0, 0, 0, 0)", x.page(1, 0, 0, 0, 0, 0), 0);
        Check.due("place(-1, 1, 1, false)", x.place(-1, 1, 1, false), 0);
    }

    private static void objectsAreApart() {
        EdgeOrchard one = new EdgeOrchard();
        one.page(1, 0, 5, 0, 0, 0);
        one.place(-1, 1, 1, false);
        one.ask(0, 0, 0, 0, 0, 0);
        one.pass(1);
        EdgeOrchard other = new EdgeOrchard();
        Check.due("second() of another object", other.second(), 0);
        Check.due("fetches() of another object", other.fetches(), 0);
        Check.throwsDue("copies(0) of another object", NO_SUCH, () -> other.copies(0));
    }

    private static void constants() {
        Check.due("NONE", EdgeOrchard.NONE, -1);
        Check.due("BY_LANGUAGE", EdgeOrchard.BY_LANGUAGE, 1);
        Check.due("BY_KIND", EdgeOrchard.BY_KIND, 2);
        Check.due("PRIVATE", EdgeOrchard.PRIVATE, 4);
        Check.due("WAITING", EdgeOrchard.WAITING, 0);
        Check.due("ANSWERED", EdgeOrchard.ANSWERED, 1);
        Check.due("FAILED", EdgeOrchard.FAILED, 2);
        Check.due("FRESH", EdgeOrchard.FRESH, 0);
        Check.due("STALE", EdgeOrchard.STALE, 1);
        Check.due("FETCHED", EdgeOrchard.FETCHED, 2);
    }

    public static void main(String[] args) {
        hasNothing();
        objectsAreApart();
        constants();
        Check.end("NewObjectTest");
    }
}
