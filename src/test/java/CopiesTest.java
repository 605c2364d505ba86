/** Promises 8, 13 to 16: copies that are fresh, stale, gone or mended, and their pieces. */
public final class CopiesTest {
    /** A page with these rules, a place with delay 1, and a copy of all of it, told in second 1. */
    private static EdgeOrchard withCopy(int pieces, int life, int meanwhile, int onErrors) {
        EdgeOrchard x = new EdgeOrchard();
        x.page(pieces, 0, life, meanwhile, onErrors, 0);
        x.place(-1, 1, 40, false);
        x.ask(0, 0, 0, 0, 0, pieces - 1);
        x.pass(1);
        return x;
    }

    /** Life 4 from second 1: fresh to 4; meanwhile 3: stale to 7; in 8 it is fetched again. */
    private static void lifeAndMeanwhile() {
        for (int second = 2; second <= 9; second++) {
            EdgeOrchard x = withCopy(1, 4, 3, 0);
            x.pass(second - 1);
            int fetches = x.fetches();
            x.ask(0, 0, 0, 0, 0, 0);
            String want = second < 5 ? "fresh 1 1" : second < 8 ? "stale 1 1" : "waiting";
            Look.answerDue(x, 1, want);
            Check.due("fetches for an ask in second " + second, x.fetches() - fetches, second < 5 ? 0 : 1);
            x.pass(1);
            Look.copyDue(x, 0, 0, second < 5 ? "1 1 1 -1" : "1 " + (second + 1) + " 1 -1");
        }
    }

    private static void withoutLife() {
        EdgeOrchard x = withCopy(1, 0, 0, 0);
        Look.answerDue(x, 0, "fetched 1 1");
        x.ask(0, 0, 0, 0, 0, 0);
        Look.answerDue(x, 1, "waiting");
        Check.due("copies(0) of no life", x.copies(0), 1);
        EdgeOrchard y = withCopy(1, 0, 2, 0);
        y.ask(0, 0, 0, 0, 0, 0);
        Look.answerDue(y, 1, "stale 1 1");
        y.ask(0, 0, 0, 0, 0, 0);
        Look.answerDue(y, 2, "stale 1 1");
        Check.due("fetches() for nobody", y.fetches(), 2);
        Check.due("onWay(0) for nobody", y.onWay(0), 1);
        y.pass(1);
        Check.due("fetched(0) for nobody: it has the same version", y.fetched(0), 1);
        Look.copyDue(y, 0, 0, "1 2 1 -1");
    }

    /** A fetch for nobody is for the pieces that were asked for, and others may wait for it. */
    private static void fetchesForNobody() {
        EdgeOrchard x = withCopy(4, 2, 9, 0);
        x.pass(2);
        x.update(0);
        x.ask(0, 0, 0, 0, 1, 2);
        Look.answerDue(x, 1, "stale 1 1");
        x.ask(0, 0, 0, 0, 2, 2);
        Check.due("fetches(): one takes both on", x.fetches(), 2);
        x.ask(0, 0, 0, 0, 0, 1);
        Check.due("fetches(): not for all these pieces", x.fetches(), 3);
        x.pass(1);
        Look.copyDue(x, 0, 0, "2 4 7 -1");
        Check.due("fetched(0)", x.fetched(0), 8);
        Check.due("held(0)", x.held(0), 3);
        Check.due("served(0)", x.served(0), 9);
        x.ask(0, 0, 0, 0, 3, 3);
        Look.answerDue(x, 4, "waiting");
        x.pass(1);
        Look.copyDue(x, 0, 0, "2 5 15 -1");
    }

    /** Pieces of the same version come to the copy; another version is a new copy, also of fewer pieces. */
    private static void piecesOfVersions() {
        EdgeOrchard x = new EdgeOrchard();
        x.page(8, 0, 50, 0, 0, 0);
        x.place(-1, 1, 40, false);
        x.ask(0, 0, 0, 0, 0, 0);
        x.pass(1);
        Look.copyDue(x, 0, 0, "1 1 1 -1");
        x.ask(0, 0, 0, 0, 6, 7);
        x.pass(1);
        Look.copyDue(x, 0, 0, "1 2 193 -1");
        Check.due("held(0)", x.held(0), 3);
        Check.due("copies(0)", x.copies(0), 1);
        x.ask(0, 0, 0, 0, 0, 7);
        Look.answerDue(x, 2, "waiting");
        x.update(0);
        x.ask(0, 0, 0, 0, 6, 6);
        Look.answerDue(x, 3, "fresh 1 2");
        x.pass(1);
        Look.copyDue(x, 0, 0, "2 3 255 -1");
        x.update(0);
        x.pass(49);
        x.ask(0, 0, 0, 0, 3, 3);
        Look.answerDue(x, 4, "fresh 2 3");
        x.pass(1);
        x.ask(0, 0, 0, 0, 3, 3);
        x.pass(1);
        Look.copyDue(x, 0, 0, "3 54 8 -1");
        Check.due("held(0) of a new version", x.held(0), 1);
    }

    /**
     * A fetch from below for language 1 waits at place 0 for one for language 0, as the page does not vary there yet;
     * meanwhile place 0 learns that it does, and gets a copy for language 1 in second 9. So place 1 gets an answer of
     * second 10 first, and then, when it asks for a further piece, the older copy of place 0.
     */
    private static EdgeOrchard withAnOlderCopyAbove(boolean isUpdated) {
        EdgeOrchard x = new EdgeOrchard();
        x.page(3, 0, 100, 0, 0, 0);
        x.place(-1, 4, 40, false);
        x.place(0, 1, 40, false);
        x.ask(0, 0, 0, 0, 0, 0);
        x.pass(4);
        x.rules(0, EdgeOrchard.BY_LANGUAGE, 100, 0, 0);
        x.pass(1);
        x.ask(0, 0, 1, 0, 1, 2);
        x.pass(1);
        x.ask(0, 0, 0, 0, 0, 1);
        x.ask(1, 0, 1, 0, 0, 1);
        x.pass(3);
        Check.due("fetches(): the one from below waits", x.fetches(), 4);
        Look.copyDue(x, 0, 0, 1, 0, "1 9 6 -1");
        if (isUpdated) {
            x.update(0);
        }
        x.pass(1);
        Look.copyDue(x, 0, 0, 1, 0, "1 9 6 -1");
        Look.copyDue(x, 1, 0, 1, 0, isUpdated ? "2 10 3 -1" : "1 10 3 -1");
        // The soft purge comes to place 1 ahead of the fetch's answer, to place 0 three seconds later.
        x.purge(0, false);
        x.ask(1, 0, 1, 0, 1, 2);
        x.pass(1);
        return x;
    }

    private static void lowerVersionsAndEarlierTimes() {
        EdgeOrchard x = withAnOlderCopyAbove(true);
        Look.answerDue(x, 4, "fetched 1 9");
        Look.copyDue(x, 1, 0, 1, 0, "1 9 6 -1");
        Check.due("fetched(1) of a lower version", x.fetched(1), 4);
        EdgeOrchard y = withAnOlderCopyAbove(false);
        Look.answerDue(y, 4, "fetched 1 9");
        // The same version: it has its time, though it is an earlier one, and is not soft any more.
        Look.copyDue(y, 1, 0, 1, 0, "1 9 7 -1");
        Check.due("isDone(0) at place 0 too", y.isDone(0), false);
    }

    /** What is given stale is kept below with the time that it has. */
    private static void staleCopiesGoDownWithTheirTime() {
        EdgeOrchard x = new EdgeOrchard();
        x.page(2, 0, 10, 40, 0, 0);
        x.place(-1, 1, 40, false);
        x.place(0, 9, 40, false);
        x.ask(0, 0, 0, 0, 0, 1);
        x.pass(1);
        x.ask(1, 0, 0, 0, 0, 0);
        x.pass(9);
        Look.copyDue(x, 1, 0, "1 1 1 -1");
        x.pass(10);
        x.ask(1, 0, 0, 0, 1, 1);
        x.pass(9);
        Look.answerDue(x, 2, "fetched 1 1");
        Look.copyDue(x, 1, 0, "1 1 3 -1");
        Check.due("fetches(): place 0 fetches for nobody", x.fetches(), 4);
        x.pass(1);
        Look.copyDue(x, 0, 0, "1 30 3 -1");
        Look.copyDue(x, 1, 0, "1 1 3 -1");
        x.ask(1, 0, 0, 0, 1, 1);
        Look.answerDue(x, 3, "stale 1 1");
        x.pass(9);
        Look.copyDue(x, 1, 0, "1 30 3 -1");
    }

    public static void main(String[] args) {
        lifeAndMeanwhile();
        withoutLife();
        fetchesForNobody();
        piecesOfVersions();
        lowerVersionsAndEarlierTimes();
        staleCopiesGoDownWithTheirTime();
        Check.end("CopiesTest");
    }
}
