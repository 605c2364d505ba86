/**
 * "At most": the last page, place, ask, purge and second that there can be are as good as the others, the first one
 * beyond is refused. (The most fetches are in LimitsTest.)
 */
public final class FullTest {
    private static final Class<IndexOutOfBoundsException> NO_SUCH = IndexOutOfBoundsException.class;
    private static final Class<IllegalArgumentException> WRONG = IllegalArgumentException.class;
    private static final Class<IllegalStateException> FULL = IllegalStateException.class;

    /** "Pages are numbered from 0, at most 12." The twelfth is asked for, purged and changed as any. */
    private static void twelvePages() {
        EdgeOrchard x = new EdgeOrchard();
        x.place(-1, 1, 40, false);
        for (int k = 0; k < 11; k++) {
            Check.due("page " + k, x.page(1, 0, 50, 0, 0, 0), k);
        }
        Check.throwsDue("ask for page 11 of 11", NO_SUCH, () -> x.ask(0, 11, 0, 0, 0, 0));
        Check.throwsDue("purge of page 11 of 11", NO_SUCH, () -> x.purge(11, true));
        Check.due("varies(0, 10)", x.varies(0, 10), -1);
        Check.throwsDue("varies(0, 11) of 11", NO_SUCH, () -> x.varies(0, 11));
        Check.due("page 11", x.page(8, 3, 50, 0, 0, 8), 11);
        Check.throwsDue("page 12", FULL, () -> x.page(8, 3, 50, 0, 0, 8));
        Check.throwsDue("page 12, out of range too", WRONG, () -> x.page(9, 3, 50, 0, 0, 8));
        x.ask(0, 11, 2, 1, 0, 7);
        x.ask(0, 10, 2, 1, 0, 0);
        x.pass(1);
        Look.copyDue(x, 0, 11, 2, 1, "1 1 255 -1");
        Look.copyDue(x, 0, 10, 2, 1, "1 1 1 -1");
        Check.due("rules(11, ..)", x.rules(11, 0, 50, 0, 0), 3);
        Check.due("update(11)", x.update(11), 2);
        x.purgeMark(3, false);
        x.pass(1);
        Look.copyDue(x, 0, 11, 2, 1, "1 1 255 2");
        Look.copyDue(x, 0, 10, 2, 1, "1 1 1 -1");
        x.purge(11, true);
        x.pass(1);
        Look.copyDue(x, 0, 11, 2, 1, "none");
        Check.due("copies(0)", x.copies(0), 1);
        Check.throwsDue("ask for page 12", NO_SUCH, () -> x.ask(0, 12, 0, 0, 0, 0));
        Check.throwsDue("copy of page 12", NO_SUCH, () -> x.copy(0, 12, 0, 0, 0));
        Check.throwsDue("rules of page 12", NO_SUCH, () -> x.rules(12, 0, 0, 0, 0));
    }

    /** "Places are numbered from 0, at most 6." */
    private static void sixPlaces() {
        EdgeOrchard x = new EdgeOrchard();
        x.page(1, 0, 50, 0, 0, 0);
        for (int k = 0; k < 5; k++) {
            Check.due("place " + k, x.place(k - 1, 1, 1, false), k);
        }
        Check.throwsDue("ask at place 5 of 5", NO_SUCH, () -> x.ask(5, 0, 0, 0, 0, 0));
        Check.throwsDue("a place below place 5 of 5", NO_SUCH, () -> x.place(5, 1, 1, false));
        Check.due("place 5", x.place(4, 9, 40, true), 5);
        Check.throwsDue("place 6", FULL, () -> x.place(5, 9, 40, true));
        Check.throwsDue("place 6, delay out of range too", WRONG, () -> x.place(5, 10, 40, true));
        Check.throwsDue("place 6 below itself", NO_SUCH, () -> x.place(6, 10, 40, true));
        int ask = x.ask(5, 0, 0, 0, 0, 0);
        x.pass(13);
        Look.answerDue(x, ask, "waiting");
        x.pass(1);
        Look.answerDue(x, ask, "fetched 1 14");
        Check.due("copies(5), asked once", x.copies(5), 0);
        int purge = x.purge(0, true);
        x.pass(8);
        Check.due("isDone ahead of place 5", x.isDone(purge), false);
        x.pass(1);
        Check.due("isDone at place 5", x.isDone(purge), true);
    }

    /** "Readers' asks are numbered from 0, at most 200": the last one counts as a coming, the one beyond as none. */
    private static void twoHundredAsks() {
        EdgeOrchard x = new EdgeOrchard();
        x.page(2, 0, 100, 0, 0, 0);
        x.page(1, 0, 100, 0, 0, 0);
        x.place(-1, 1, 40, true);
        for (int k = 0; k < 199; k++) {
            Check.due("ask " + k, x.ask(0, 0, 0, 0, 0, 1), k);
        }
        Check.throwsDue("answer(199, 0) of 199", NO_SUCH, () -> x.answer(199, 0));
        Check.due("ask 199", x.ask(0, 1, 0, 0, 0, 0), 199);
        Look.answerDue(x, 199, "waiting");
        int fetches = x.fetches();
        Check.due("fetches(), one for the first four and one for each other", fetches, 197);
        Check.throwsDue("ask 200", FULL, () -> x.ask(0, 1, 0, 0, 0, 0));
        Check.throwsDue("ask 200, last below first too", WRONG, () -> x.ask(0, 0, 0, 0, 1, 0));
        Check.throwsDue("ask 200, of no piece too", NO_SUCH, () -> x.ask(0, 1, 0, 0, 1, 0));
        Check.throwsDue("answer(200, 0)", NO_SUCH, () -> x.answer(200, 0));
        Check.due("fetches() behind ask 200", x.fetches(), fetches);
        x.pass(1);
        Look.answerDue(x, 199, "fetched 1 1");
        Look.answerDue(x, 0, "fetched 1 1");
        // Page 1 was asked for once: the ask that was refused has not come.
        Look.copyDue(x, 0, 1, "none");
        Look.copyDue(x, 0, 0, "1 1 3 -1");
        Check.due("served(0)", x.served(0), 2 * 199 + 1);
    }

    /** "Purges are numbered from 0, at most 30", those of pages and of marks together; the last one comes too. */
    private static void thirtyPurges(boolean isLastOfMark) {
        EdgeOrchard x = new EdgeOrchard();
        x.page(1, 0, 100, 50, 0, 2);
        x.place(-1, 1, 40, false);
        for (int k = 0; k < 29; k++) {
            Check.due("purge " + k, k % 2 == 0 ? x.purge(0, true) : x.purgeMark(1, false), k);
        }
        x.ask(0, 0, 0, 0, 0, 0);
        x.pass(1);
        Check.due("isDone(28)", x.isDone(28), true);
        Check.throwsDue("isDone(29) of 29", NO_SUCH, () -> x.isDone(29) ? 1 : 0);
        Check.due("purge 29", isLastOfMark ? x.purgeMark(1, true) : x.purge(0, true), 29);
        Check.due("isDone(29) on the way", x.isDone(29), false);
        Check.throwsDue("purge 30", FULL, () -> x.purge(0, false));
        Check.throwsDue("purge 30, of no page too", NO_SUCH, () -> x.purge(1, false));
        Check.throwsDue("purge 30, of a mark", FULL, () -> x.purgeMark(1, false));
        Check.throwsDue("purge 30, of no mark too", NO_SUCH, () -> x.purgeMark(4, false));
        Check.throwsDue("isDone(30)", NO_SUCH, () -> x.isDone(30) ? 1 : 0);
        Look.copyDue(x, 0, 0, "1 1 1 -1");
        x.pass(1);
        Look.copyDue(x, 0, 0, "none");
        Check.due("isDone(29)", x.isDone(29), true);
    }

    /** "The second is 0 at first, at most 5000", in which what comes then comes. */
    private static void fiveThousandSeconds() {
        EdgeOrchard x = new EdgeOrchard();
        x.page(1, 0, 50, 0, 0, 0);
        x.place(-1, 1, 40, false);
        x.place(0, 1, 40, false);
        Check.due("second()", x.second(), 0);
        for (int k = 0; k < 49; k++) {
            x.pass(100);
        }
        Check.throwsDue("pass(101) at 4900", WRONG, () -> x.pass(101));
        Check.due("pass(99) at 4900", x.pass(99), 4999);
        x.ask(0, 0, 0, 0, 0, 0);
        x.purge(0, false);
        Check.throwsDue("pass(2) at 4999", FULL, () -> x.pass(2));
        Check.throwsDue("pass(100) at 4999", FULL, () -> x.pass(100));
        Check.throwsDue("pass(0) at 4999", WRONG, () -> x.pass(0));
        Check.due("second() behind that", x.second(), 4999);
        Look.answerDue(x, 0, "waiting");
        Check.due("isDone(0) behind that", x.isDone(0), false);
        Check.due("pass(1) at 4999", x.pass(1), 5000);
        Look.answerDue(x, 0, "fetched 1 5000");
        Check.due("isDone(0) in 5000", x.isDone(0), true);
        x.ask(1, 0, 0, 0, 0, 0);
        Look.answerDue(x, 1, "waiting");
        x.ask(0, 0, 0, 0, 0, 0);
        Look.answerDue(x, 2, "fresh 1 5000");
        Check.due("purge in 5000", x.purge(0, true), 1);
        Check.throwsDue("pass(1) at 5000", FULL, () -> x.pass(1));
        Check.throwsDue("pass(101) at 5000", WRONG, () -> x.pass(101));
        Look.answerDue(x, 1, "waiting");
        Check.due("isDone(1) in 5000", x.isDone(1), false);
    }

    /** Exactly up to 5000 by the longest pass. */
    private static void theLongestPassUpToTheEnd() {
        EdgeOrchard x = new EdgeOrchard();
        for (int k = 1; k <= 50; k++) {
            Check.due("pass(100)", x.pass(100), 100 * k);
        }
        Check.throwsDue("pass(100) at 5000", FULL, () -> x.pass(100));
    }

    public static void main(String[] args) {
        twelvePages();
        sixPlaces();
        twoHundredAsks();
        thirtyPurges(false);
        thirtyPurges(true);
        fiveThousandSeconds();
        theLongestPassUpToTheEnd();
        Check.end("FullTest");
    }
}
