/** Promises 8, 13, 20, 21: who waits for a fetch of another, and the limits of that. */
public final class CrowdsTest {
    private static EdgeOrchard orchard(int pieces, int varies) {
        EdgeOrchard x = new EdgeOrchard();
        x.page(pieces, varies, 50, 0, 0, 0);
        x.place(-1, 2, 40, false);
        return x;
    }

    private static void fourWaitForOne() {
        EdgeOrchard x = orchard(3, 0);
        for (int k = 0; k < 4; k++) {
            x.ask(0, 0, 0, 0, 0, 2);
            Check.due("fetches() of " + (k + 1), x.fetches(), 1);
        }
        x.ask(0, 0, 0, 0, 1, 1);
        Check.due("fetches() of the fifth", x.fetches(), 2);
        // The lowest one that could take them on has four that wait: the second one does not, either.
        x.ask(0, 0, 0, 0, 1, 1);
        x.ask(0, 0, 0, 0, 1, 1);
        Check.due("fetches() of seven", x.fetches(), 4);
        Check.due("onWay(0)", x.onWay(0), 4);
        Check.due("served(0) so far", x.served(0), 0);
        x.pass(2);
        for (int k = 0; k < 7; k++) {
            Look.answerDue(x, k, "fetched 1 2");
        }
        Check.due("served(0)", x.served(0), 15);
        Check.due("fetched(0)", x.fetched(0), 3);
        Check.due("onWay(0) behind", x.onWay(0), 0);
        Check.due("origin()", x.origin(), 4);
    }

    private static void onlyForAllPieces() {
        EdgeOrchard x = orchard(4, 0);
        x.ask(0, 0, 0, 0, 1, 2);
        x.ask(0, 0, 0, 0, 0, 1);
        x.ask(0, 0, 0, 0, 2, 3);
        Check.due("fetches() for other pieces", x.fetches(), 3);
        x.ask(0, 0, 0, 0, 1, 1);
        x.ask(0, 0, 0, 0, 2, 2);
        x.ask(0, 0, 0, 0, 1, 2);
        x.ask(0, 0, 0, 0, 3, 3);
        x.ask(0, 0, 0, 0, 0, 0);
        Check.due("fetches() for these pieces", x.fetches(), 3);
        x.pass(2);
        Look.copyDue(x, 0, 0, "1 2 15 -1");
    }

    /** As long as nothing is known, language and kind have to be the same; then only what it varies by. */
    private static void onlyTheSameKey(int varies, int first, int later) {
        EdgeOrchard x = orchard(2, varies);
        x.ask(0, 0, 0, 0, 0, 0);
        x.ask(0, 0, 1, 0, 0, 0);
        x.ask(0, 0, 0, 1, 0, 0);
        x.ask(0, 0, 1, 1, 0, 0);
        x.ask(0, 0, 0, 0, 0, 0);
        Check.due("fetches() while nothing is known, varies " + varies, x.fetches(), 4);
        x.pass(2);
        Check.due("copies(0), varies " + varies, x.copies(0), first);
        x.ask(0, 0, 0, 0, 0, 1);
        x.ask(0, 0, 1, 0, 0, 1);
        x.ask(0, 0, 0, 1, 0, 1);
        x.ask(0, 0, 1, 1, 0, 1);
        Check.due("fetches() when it is known, varies " + varies, x.fetches() - 4, later);
        x.pass(2);
        Check.due("copies(0) at last, varies " + varies, x.copies(0), first);
    }

    private static void onlyTheSamePageAndPlace() {
        EdgeOrchard x = orchard(1, 0);
        x.page(1, 0, 50, 0, 0, 0);
        x.place(-1, 2, 40, false);
        x.ask(0, 0, 0, 0, 0, 0);
        x.ask(0, 1, 0, 0, 0, 0);
        x.ask(1, 0, 0, 0, 0, 0);
        Check.due("fetches() of pages and places", x.fetches(), 3);
        Check.due("onWay(0)", x.onWay(0), 2);
        Check.due("onWay(1)", x.onWay(1), 1);
    }

    /** Fetches from below wait as asks do, and count for the four. */
    private static void placesWaitToo() {
        EdgeOrchard x = orchard(2, 0);
        for (int k = 1; k < 6; k++) {
            x.place(0, 1, 40, false);
        }
        for (int k = 1; k < 6; k++) {
            x.ask(k, 0, 0, 0, 0, 1);
        }
        Check.due("fetches() of five places", x.fetches(), 5);
        x.pass(1);
        Check.due("fetches() behind their coming", x.fetches(), 7);
        Check.due("onWay(0)", x.onWay(0), 2);
        x.ask(0, 0, 0, 0, 1, 1);
        Check.due("fetches(): four wait for the lowest", x.fetches(), 8);
        x.pass(2);
        for (int k = 0; k < 5; k++) {
            Look.answerDue(x, k, "fetched 1 3");
        }
        Look.answerDue(x, 5, "fetched 1 3");
        Check.due("served(0)", x.served(0), 11);
        Check.due("fetched(0)", x.fetched(0), 2);
        Check.due("fetched(5)", x.fetched(5), 2);
    }

    /** A purge that has come since makes a fetch too old for who comes later, not for who waits. */
    private static void onlyOfNoLowerSecond() {
        EdgeOrchard x = orchard(1, 0);
        x.pass(3);
        x.purge(0, true);
        x.pass(1);
        x.ask(0, 0, 0, 0, 0, 0);
        x.pass(1);
        Check.due("fetches() ahead of the purge", x.fetches(), 1);
        x.ask(0, 0, 0, 0, 0, 0);
        Check.due("fetches() behind the purge", x.fetches(), 2);
        x.ask(0, 0, 0, 0, 0, 0);
        Check.due("fetches(): the second takes it on", x.fetches(), 2);
        x.pass(1);
        Look.answerDue(x, 0, "fetched 1 6");
        Look.answerDue(x, 1, "waiting");
        Look.copyDue(x, 0, 0, "1 6 1 -1");
        x.pass(1);
        Look.answerDue(x, 1, "fetched 1 7");
        Look.answerDue(x, 2, "fetched 1 7");
    }

    /** For one that could be taken on by a full fetch nobody is fetched for, too, when it is given what is stale. */
    private static void staleHoweverManyWait() {
        EdgeOrchard x = new EdgeOrchard();
        x.page(2, 0, 2, 20, 0, 0);
        x.place(-1, 5, 40, false);
        x.ask(0, 0, 0, 0, 0, 0);
        x.pass(7);
        for (int k = 0; k < 4; k++) {
            x.ask(0, 0, 0, 0, 0, 1);
        }
        Check.due("fetches() of both pieces", x.fetches(), 2);
        x.ask(0, 0, 0, 0, 0, 0);
        Look.answerDue(x, 5, "stale 1 5");
        Check.due("fetches(): one could take it on", x.fetches(), 2);
        x.ask(0, 0, 0, 0, 1, 1);
        Check.due("fetches(): that one is full", x.fetches(), 3);
        x.pass(5);
        Look.answerDue(x, 4, "fetched 1 12");
        Look.answerDue(x, 6, "fetched 1 12");
    }

    public static void main(String[] args) {
        fourWaitForOne();
        onlyForAllPieces();
        onlyTheSameKey(0, 1, 1);
        onlyTheSameKey(EdgeOrchard.BY_LANGUAGE, 2, 2);
        onlyTheSameKey(EdgeOrchard.BY_KIND, 2, 2);
        onlyTheSameKey(EdgeOrchard.BY_LANGUAGE | EdgeOrchard.BY_KIND, 4, 4);
        onlyTheSamePageAndPlace();
        placesWaitToo();
        onlyOfNoLowerSecond();
        staleHoweverManyWait();
        Check.end("CrowdsTest");
    }
}
