/** Promises 5, 7, 8, 13: what is done when there is an error, and how long it is kept in mind. */
public final class ErrorsTest {
    /** A page with these rules, a place with this delay, and a copy of all of it, told in the second of the delay. */
    private static EdgeOrchard withCopy(int delay, int life, int meanwhile, int onErrors) {
        EdgeOrchard x = new EdgeOrchard();
        x.page(3, 0, life, meanwhile, onErrors, 0);
        x.place(-1, delay, 40, false);
        x.ask(0, 0, 0, 0, 0, 1);
        x.pass(delay);
        return x;
    }

    /** Life 2 from second 1, on errors 5 more: given to who waits up to second 7. */
    private static void staleOnErrors() {
        for (int second = 4; second <= 9; second++) {
            EdgeOrchard x = withCopy(1, 2, 0, 5);
            x.down(true);
            x.pass(second - 2);
            x.ask(0, 0, 0, 0, 1, 1);
            Look.answerDue(x, 1, "waiting");
            x.pass(1);
            Look.answerDue(x, 1, second < 8 ? "stale 1 1" : "failed");
            Check.due("served(0)", x.served(0), second < 8 ? 3 : 2);
            Check.due("fetched(0)", x.fetched(0), 2);
            Check.due("onWay(0)", x.onWay(0), 0);
            Look.copyDue(x, 0, 0, "1 1 3 -1");
        }
    }

    /** An error counts in its second and the next; then the place fetches again. */
    private static void keptInMind() {
        EdgeOrchard x = withCopy(2, 0, 0, 0);
        x.down(true);
        x.ask(0, 0, 0, 0, 0, 0);
        x.pass(2);
        Look.answerDue(x, 1, "failed");
        x.down(false);
        x.ask(0, 0, 0, 0, 2, 2);
        Look.answerDue(x, 2, "failed");
        x.ask(0, 0, 2, 1, 0, 0);
        Look.answerDue(x, 3, "failed");
        x.pass(1);
        x.ask(0, 0, 0, 0, 0, 0);
        Look.answerDue(x, 4, "failed");
        Check.due("fetches() with errors in mind", x.fetches(), 2);
        x.pass(1);
        x.ask(0, 0, 0, 0, 0, 0);
        Look.answerDue(x, 5, "waiting");
        x.pass(2);
        Look.answerDue(x, 5, "fetched 1 8");
    }

    /** An error of one page is none of another, nor one of another place. */
    private static void keptForOnePageAtOnePlace() {
        EdgeOrchard x = withCopy(1, 0, 0, 0);
        x.page(1, 0, 5, 0, 0, 0);
        x.place(-1, 1, 40, false);
        x.down(true);
        x.ask(0, 0, 0, 0, 0, 0);
        x.pass(1);
        x.ask(0, 1, 0, 0, 0, 0);
        Look.answerDue(x, 2, "waiting");
        x.ask(1, 0, 0, 0, 0, 0);
        Look.answerDue(x, 3, "waiting");
    }

    /** An error in mind gives what is stale on errors, and only with all pieces; a fresh one is given as ever. */
    private static void copiesWithAnErrorInMind() {
        EdgeOrchard x = withCopy(1, 4, 0, 9);
        x.down(true);
        x.ask(0, 0, 0, 0, 2, 2);
        x.pass(1);
        Look.answerDue(x, 1, "failed");
        x.ask(0, 0, 0, 0, 0, 1);
        Look.answerDue(x, 2, "fresh 1 1");
        x.ask(0, 0, 0, 0, 1, 2);
        Look.answerDue(x, 3, "failed");
        x.pass(3);
        x.ask(0, 0, 0, 0, 2, 2);
        x.pass(1);
        x.ask(0, 0, 0, 0, 0, 1);
        Look.answerDue(x, 5, "stale 1 1");
        Check.due("fetches() with an error in mind", x.fetches(), 3);
        x.pass(1);
        x.ask(0, 0, 0, 0, 0, 1);
        Look.answerDue(x, 6, "stale 1 1");
        x.pass(1);
        x.ask(0, 0, 0, 0, 0, 1);
        Look.answerDue(x, 7, "waiting");
    }

    /** What may be stale meanwhile is fetched again whatever errors the place has in mind. */
    private static void meanwhileFetchesInSpiteOfErrors() {
        EdgeOrchard x = withCopy(1, 0, 20, 0);
        x.down(true);
        x.ask(0, 0, 0, 0, 0, 0);
        x.pass(1);
        x.ask(0, 0, 0, 0, 0, 0);
        Look.answerDue(x, 2, "stale 1 1");
        Check.due("fetches() with an error in mind", x.fetches(), 3);
        x.down(false);
        x.update(0);
        x.pass(1);
        Look.copyDue(x, 0, 0, "2 3 1 -1");
    }

    /** That the same is done as for an error is no error anew: it is not in mind longer for that. */
    private static void noErrorAnew() {
        EdgeOrchard x = withCopy(1, 0, 0, 0);
        x.down(true);
        x.ask(0, 0, 0, 0, 0, 0);
        x.pass(1);
        x.down(false);
        x.pass(1);
        x.ask(0, 0, 0, 0, 0, 0);
        Look.answerDue(x, 2, "failed");
        x.pass(1);
        x.ask(0, 0, 0, 0, 0, 0);
        Look.answerDue(x, 3, "waiting");
    }

    /** Each that waits is looked at for itself: here one for the pieces that are there, one for others. */
    private static void eachThatWaits() {
        EdgeOrchard x = withCopy(3, 1, 0, 50);
        x.pass(1);
        x.ask(0, 0, 0, 0, 0, 2);
        x.ask(0, 0, 1, 0, 1, 1);
        x.ask(0, 0, 0, 1, 1, 2);
        x.down(true);
        Check.due("fetches()", x.fetches(), 2);
        x.pass(3);
        Look.answerDue(x, 1, "failed");
        Look.answerDue(x, 2, "stale 1 3");
        Look.answerDue(x, 3, "failed");
    }

    /** Errors go down: each place keeps them in mind, and gives what it has itself. */
    private static void errorsGoDown() {
        EdgeOrchard x = new EdgeOrchard();
        x.page(2, 0, 2, 0, 30, 0);
        x.place(-1, 1, 40, false);
        x.place(0, 1, 40, false);
        x.place(1, 1, 40, false);
        x.ask(1, 0, 0, 0, 0, 0);
        x.pass(2);
        x.down(true);
        x.pass(2);
        x.ask(2, 0, 0, 0, 0, 0);
        x.ask(2, 0, 0, 0, 1, 1);
        x.pass(3);
        // Of piece 0, place 0 gives a stale copy, so that there is no error below; of piece 1, nobody has one.
        Look.answerDue(x, 1, "fetched 1 2");
        Look.answerDue(x, 2, "failed");
        Look.copyDue(x, 2, 0, "1 2 1 -1");
        x.ask(1, 0, 0, 0, 1, 1);
        Look.answerDue(x, 3, "failed");
        x.ask(2, 0, 0, 0, 1, 1);
        Look.answerDue(x, 4, "failed");
        x.ask(0, 0, 0, 0, 0, 0);
        Look.answerDue(x, 5, "stale 1 2");
        Check.due("served(0)", x.served(0), 3);
        Check.due("fetched(1)", x.fetched(1), 1);
    }

    /** An error in mind at a place is an error anew for a place below whose fetch comes then. */
    private static void anErrorInMindIsOneBelow() {
        EdgeOrchard x = new EdgeOrchard();
        x.page(1, 0, 2, 0, 0, 0);
        x.place(-1, 1, 40, false);
        x.place(0, 1, 40, false);
        x.down(true);
        x.ask(0, 0, 0, 0, 0, 0);
        x.pass(1);
        x.ask(1, 0, 0, 0, 0, 0);
        x.pass(1);
        Look.answerDue(x, 1, "failed");
        Check.due("fetches()", x.fetches(), 2);
        x.pass(1);
        x.ask(1, 0, 0, 0, 0, 0);
        Look.answerDue(x, 2, "failed");
        x.ask(0, 0, 0, 0, 0, 0);
        Look.answerDue(x, 3, "waiting");
    }

    /** A page that is known to be private is fetched for each, whatever error the place has in mind. */
    private static void privateInSpiteOfErrors() {
        EdgeOrchard x = new EdgeOrchard();
        x.page(1, EdgeOrchard.PRIVATE, 9, 0, 9, 0);
        x.place(-1, 2, 40, false);
        x.ask(0, 0, 0, 0, 0, 0);
        x.pass(1);
        x.ask(0, 0, 1, 0, 0, 0);
        x.pass(1);
        Look.answerDue(x, 0, "fetched 1 2");
        x.down(true);
        x.pass(1);
        Look.answerDue(x, 1, "failed");
        x.ask(0, 0, 0, 0, 0, 0);
        Look.answerDue(x, 2, "waiting");
        x.down(false);
        x.pass(2);
        Look.answerDue(x, 2, "fetched 1 5");
    }

    /**
     * Two fetches, each for one alone, are on the way: the first tells that the page is private no more, the second
     * is an error, which is not kept in mind.
     */
    private static void aloneBehindLearning() {
        EdgeOrchard x = new EdgeOrchard();
        x.page(1, EdgeOrchard.PRIVATE, 1, 0, 0, 0);
        x.place(-1, 2, 40, false);
        x.ask(0, 0, 0, 0, 0, 0);
        x.pass(2);
        x.rules(0, 0, 1, 0, 0);
        x.ask(0, 0, 0, 0, 0, 0);
        x.pass(1);
        x.ask(0, 0, 0, 0, 0, 0);
        x.pass(1);
        Look.answerDue(x, 1, "fetched 1 4");
        x.down(true);
        x.pass(1);
        Look.answerDue(x, 2, "failed");
        x.ask(0, 0, 0, 0, 0, 0);
        Look.answerDue(x, 3, "waiting");
        x.pass(2);
        x.ask(0, 0, 0, 0, 0, 0);
        Look.answerDue(x, 3, "failed");
        Look.answerDue(x, 4, "failed");
    }

    public static void main(String[] args) {
        staleOnErrors();
        keptInMind();
        keptForOnePageAtOnePlace();
        copiesWithAnErrorInMind();
        meanwhileFetchesInSpiteOfErrors();
        noErrorAnew();
        eachThatWaits();
        errorsGoDown();
        anErrorInMindIsOneBelow();
        privateInSpiteOfErrors();
        aloneBehindLearning();
        Check.end("ErrorsTest");
    }
}
