/** Promises 11 pass, 12 second, and what comes in a second, in which order: purges, then fetches by their numbers. */
public final class SecondsTest {
    private static final Class<IllegalArgumentException> WRONG = IllegalArgumentException.class;
    private static final Class<IllegalStateException> FULL = IllegalStateException.class;

    private static void passedSeconds() {
        EdgeOrchard x = new EdgeOrchard();
        for (int wrong : new int[] {0, -1, 101, Integer.MAX_VALUE, Integer.MIN_VALUE}) {
            Check.throwsDue("pass(" + wrong + ")", WRONG, () -> x.pass(wrong));
        }
        Check.due("second()", x.second(), 0);
        Check.due("pass(1)", x.pass(1), 1);
        Check.due("pass(99)", x.pass(99), 100);
        for (int k = 2; k <= 49; k++) {
            Check.due("pass(100)", x.pass(100), 100 * k);
        }
        Check.due("pass(1) at 4900", x.pass(1), 4901);
        Check.throwsDue("pass(100) at 4901", FULL, () -> x.pass(100));
        Check.due("second() behind that", x.second(), 4901);
        Check.due("pass(99) at 4901", x.pass(99), 5000);
        Check.throwsDue("pass(1) at 5000", FULL, () -> x.pass(1));
        Check.throwsDue("pass(101) at 5000", WRONG, () -> x.pass(101));
        Check.throwsDue("pass(0) at 5000", WRONG, () -> x.pass(0));
        Check.due("second() at last", x.second(), 5000);
    }

    /** What would come in the seconds that do not pass does not come. */
    private static void tooManySecondsChangeNothing() {
        EdgeOrchard x = new EdgeOrchard();
        x.page(1, 0, 5, 0, 0, 0);
        x.place(-1, 1, 5, false);
        for (int k = 0; k < 49; k++) {
            x.pass(100);
        }
        x.pass(90);
        x.purge(0, true);
        x.ask(0, 0, 0, 0, 0, 0);
        String was = Look.all(x, 1, 1, 1, 1);
        Check.throwsDue("pass(11)", FULL, () -> x.pass(11));
        Check.same("all behind pass(11)", Look.all(x, 1, 1, 1, 1), was);
        Check.due("pass(10)", x.pass(10), 5000);
        Look.answerDue(x, 0, "fetched 1 4991");
        x.ask(0, 0, 0, 0, 0, 0);
        Look.answerDue(x, 1, "waiting");
        Check.due("onWay(0)", x.onWay(0), 1);
    }

    /** Each second by itself: a long pass is the same as short ones. */
    private static void secondAfterSecond() {
        EdgeOrchard one = chain();
        EdgeOrchard other = chain();
        one.pass(13);
        for (int k = 0; k < 13; k++) {
            other.pass(1);
        }
        Check.same("13 seconds at once", Look.all(one, 3, 1, 3, 1), Look.all(other, 3, 1, 3, 1));
        Check.due("fetches() of them", one.fetches() > 4, true);
    }

    private static EdgeOrchard chain() {
        EdgeOrchard x = new EdgeOrchard();
        x.page(3, 0, 3, 2, 4, 0);
        x.place(-1, 3, 5, false);
        x.place(0, 2, 5, false);
        x.place(1, 1, 5, true);
        x.ask(2, 0, 0, 0, 0, 1);
        x.ask(1, 0, 0, 0, 1, 1);
        x.ask(0, 0, 0, 0, 2, 2);
        x.purge(0, true);
        return x;
    }

    /** In one second a purge comes ahead of a fetch: what the fetch brings, from below, meets no copy any more. */
    private static void purgesComeFirst() {
        EdgeOrchard x = new EdgeOrchard();
        x.page(1, 0, 50, 0, 0, 0);
        x.place(-1, 2, 5, false);
        x.place(0, 2, 5, false);
        x.ask(0, 0, 0, 0, 0, 0);
        x.pass(2);
        x.purge(0, true);
        x.ask(1, 0, 0, 0, 0, 0);
        x.pass(2);
        Look.answerDue(x, 1, "waiting");
        Check.due("onWay(0)", x.onWay(0), 1);
    }

    /** Fetches of one second come by rising numbers: the first one's error is in mind when the second comes. */
    private static void fetchesComeByTheirNumbers() {
        EdgeOrchard x = new EdgeOrchard();
        x.page(1, 0, 50, 0, 0, 0);
        x.place(-1, 2, 5, false);
        x.place(0, 1, 5, false);
        x.place(-1, 1, 5, false);
        x.place(2, 1, 5, false);
        x.down(true);
        x.ask(0, 0, 0, 0, 0, 0);
        x.pass(1);
        x.ask(1, 0, 0, 0, 0, 0);
        x.ask(3, 0, 0, 0, 0, 0);
        x.ask(2, 0, 0, 0, 0, 0);
        Check.due("fetches()", x.fetches(), 4);
        x.pass(1);
        // Fetch 0 has an error at the origin ahead of fetch 1, which comes to the same place.
        Look.answerDue(x, 0, "failed");
        Look.answerDue(x, 1, "failed");
        // Fetch 2 comes to place 2 ahead of fetch 3, that place's own, and waits for it still.
        Look.answerDue(x, 3, "failed");
        Look.answerDue(x, 2, "failed");
        Check.due("fetches(): none was made meanwhile", x.fetches(), 4);
    }

    /** The other way round, the one that comes first finds no error yet, and fetches. */
    private static void theFirstFindsNoError() {
        EdgeOrchard x = new EdgeOrchard();
        x.page(2, 0, 50, 0, 0, 0);
        x.place(-1, 1, 5, false);
        x.place(0, 1, 5, false);
        x.down(true);
        x.ask(1, 0, 0, 0, 0, 1);
        x.ask(0, 0, 0, 0, 0, 0);
        x.pass(1);
        Look.answerDue(x, 0, "waiting");
        Look.answerDue(x, 1, "failed");
        Check.due("fetches()", x.fetches(), 3);
        x.pass(1);
        Look.answerDue(x, 0, "failed");
    }

    public static void main(String[] args) {
        passedSeconds();
        tooManySecondsChangeNothing();
        secondAfterSecond();
        purgesComeFirst();
        fetchesComeByTheirNumbers();
        theFirstFindsNoError();
        Check.end("SecondsTest");
    }
}
