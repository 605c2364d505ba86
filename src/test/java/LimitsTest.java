/** Promises 8, 20: fetches are at most 400, and what is done when there would be more. */
public final class LimitsTest {
    private static final int FETCHES = 400;

    /** Six places in a row, of delay 1, below the origin; pages of two pieces: 0, of no life, and 1. */
    private static EdgeOrchard row() {
        EdgeOrchard x = new EdgeOrchard();
        x.page(2, 0, 0, 0, 0, 0);
        x.page(2, 0, 2, 2, 30, 0);
        for (int k = 0; k < 6; k++) {
            x.place(k - 1, 1, 40, false);
        }
        return x;
    }

    /** Each round is one ask and six fetches, through all places to the origin. */
    private static int fill(EdgeOrchard x, int least) {
        int rounds = 0;
        while (x.fetches() + 6 <= least) {
            x.ask(5, 0, 0, 0, 0, 0);
            x.pass(6);
            rounds++;
        }
        return rounds;
    }

    /** One fetch each at the topmost place. */
    private static void fillOneByOne(EdgeOrchard x, int up) {
        while (x.fetches() < up) {
            x.ask(0, 0, 0, 0, 0, 0);
            x.pass(1);
        }
    }

    private static void atOnceForAReader() {
        EdgeOrchard x = row();
        Check.due("rounds", fill(x, FETCHES), 66);
        fillOneByOne(x, 398);
        // Two are left: one for a copy of piece 0 of page 1, one that waits.
        x.ask(0, 1, 0, 0, 0, 0);
        x.pass(1);
        int ask = x.ask(0, 0, 0, 0, 0, 0);
        Look.answerDue(x, ask, "waiting");
        Check.due("fetches()", x.fetches(), FETCHES);
        Check.due("onWay(0)", x.onWay(0), 1);
        Look.answerDue(x, x.ask(0, 0, 0, 0, 1, 1), "failed");
        // The place does not keep it in mind: this one may wait for the last fetch.
        int waits = x.ask(0, 0, 0, 0, 0, 0);
        Look.answerDue(x, waits, "waiting");
        Check.due("fetches() behind the last", x.fetches(), FETCHES);
        Check.due("onWay(0) behind the last", x.onWay(0), 1);
        x.pass(1);
        Look.answerDue(x, waits, "fetched 1 " + x.second());
        staleWhenThereAreNoMore(x);
    }

    /** The copy of page 1 was told one second ago: fresh for 2, stale meanwhile for 2, on errors for 30. */
    private static void staleWhenThereAreNoMore(EdgeOrchard x) {
        int told = x.second() - 1;
        Look.answerDue(x, x.ask(0, 1, 0, 0, 0, 0), "fresh 1 " + told);
        x.pass(1);
        int served = x.served(0);
        Look.answerDue(x, x.ask(0, 1, 0, 0, 0, 0), "stale 1 " + told);
        Check.due("onWay(0): none for nobody", x.onWay(0), 0);
        x.pass(5);
        Look.answerDue(x, x.ask(0, 1, 0, 0, 0, 0), "stale 1 " + told);
        Look.answerDue(x, x.ask(0, 1, 0, 0, 1, 1), "failed");
        x.pass(24);
        Look.answerDue(x, x.ask(0, 1, 0, 0, 0, 0), "stale 1 " + told);
        x.pass(1);
        Look.answerDue(x, x.ask(0, 1, 0, 0, 0, 0), "failed");
        Check.due("served(0) of them", x.served(0) - served, 3);
        Check.due("fetches() at last", x.fetches(), FETCHES);
    }

    /** The 400th is of a place below: the place above, where it comes, can fetch no more, which is an error below. */
    private static void anErrorForThePlaceBelow() {
        EdgeOrchard x = row();
        fill(x, FETCHES);
        fillOneByOne(x, 399);
        x.pass(2);
        int ask = x.ask(1, 0, 0, 0, 1, 1);
        Check.due("fetches()", x.fetches(), FETCHES);
        Check.due("onWay(1)", x.onWay(1), 1);
        x.pass(1);
        Look.answerDue(x, ask, "failed");
        Check.due("onWay(1) behind", x.onWay(1), 0);
        Check.due("onWay(0) behind", x.onWay(0), 0);
        x.pass(9);
        Look.answerDue(x, x.ask(1, 0, 0, 0, 1, 1), "failed");
    }

    /** That place below keeps its error in mind: what could wait there for a fetch on the way fails. */
    private static void keptInMindBelow() {
        EdgeOrchard x = row();
        fill(x, FETCHES);
        fillOneByOne(x, 397);
        x.pass(2);
        int first = x.ask(1, 0, 0, 0, 0, 0);
        int second = x.ask(1, 0, 0, 0, 1, 1);
        x.pass(1);
        Check.due("fetches()", x.fetches(), FETCHES);
        Look.answerDue(x, first, "waiting");
        Look.answerDue(x, second, "failed");
        Look.answerDue(x, x.ask(1, 0, 0, 0, 0, 0), "failed");
        int above = x.ask(0, 0, 0, 0, 0, 0);
        Look.answerDue(x, above, "waiting");
        x.pass(1);
        Look.answerDue(x, first, "fetched 1 " + x.second());
        Look.answerDue(x, above, "fetched 1 " + x.second());
    }

    /** Private pages: those that come anew when there are no more fetches fail, one after the other. */
    private static void comingAnewWhenThereAreNoMore() {
        EdgeOrchard x = row();
        x.page(1, EdgeOrchard.PRIVATE, 9, 9, 9, 0);
        fill(x, FETCHES);
        fillOneByOne(x, 397);
        int first = x.ask(1, 2, 0, 0, 0, 0);
        int second = x.ask(1, 2, 0, 0, 0, 0);
        int third = x.ask(1, 2, 0, 0, 0, 0);
        x.pass(1);
        Check.due("fetches()", x.fetches(), 399);
        x.pass(1);
        Look.answerDue(x, first, "fetched 1 " + x.second());
        Look.answerDue(x, second, "waiting");
        Look.answerDue(x, third, "failed");
        Check.due("fetches() at last", x.fetches(), FETCHES);
        x.pass(1);
        Look.answerDue(x, second, "failed");
    }

    /** The 400th is of a place below; the place above, which can fetch no more, has what may be stale on errors, or not. */
    private static void whatIsStaleForThePlaceBelow(int seconds) {
        EdgeOrchard x = row();
        fill(x, FETCHES - 3);
        fillOneByOne(x, 398);
        x.ask(0, 1, 0, 0, 0, 0);
        x.pass(1);
        int told = x.second();
        x.pass(seconds - 1);
        int ask = x.ask(1, 1, 0, 0, 0, 0);
        Check.due("fetches()", x.fetches(), FETCHES);
        x.pass(1);
        boolean isGood = seconds < 32;
        Look.answerDue(x, ask, isGood ? "fetched 1 " + told : "failed");
        Look.copyDue(x, 1, 1, isGood ? "1 " + told + " 1 -1" : "none");
        Look.answerDue(x, x.ask(1, 1, 0, 0, 0, 0), isGood ? "stale 1 " + told : "failed");
        Check.due("fetches() at last", x.fetches(), FETCHES);
    }

    /** 399 fetches: one more may be made, for a private page as for any, and none behind it. */
    private static void privateAtTheLimit() {
        EdgeOrchard x = row();
        x.page(1, EdgeOrchard.PRIVATE, 9, 9, 9, 0);
        fill(x, FETCHES);
        fillOneByOne(x, 398);
        x.ask(0, 2, 0, 0, 0, 0);
        x.pass(1);
        Check.due("fetches() that are left", FETCHES - x.fetches(), 1);
        int last = x.ask(0, 2, 0, 0, 0, 0);
        Look.answerDue(x, last, "waiting");
        int beyond = x.ask(0, 2, 0, 0, 0, 0);
        Look.answerDue(x, beyond, "failed");
        Check.due("fetches() at last", x.fetches(), FETCHES);
        x.pass(1);
        Look.answerDue(x, last, "fetched 1 " + x.second());
    }

    /** Four wait for the 400th fetch; the fifth, for whom there would be one more, fails at once. */
    private static void fourWaitForTheLast() {
        EdgeOrchard x = row();
        fill(x, FETCHES);
        fillOneByOne(x, 399);
        for (int k = 0; k < 4; k++) {
            Look.answerDue(x, x.ask(0, 1, 0, 0, 0, 0), "waiting");
            Check.due("fetches() of " + (k + 1), x.fetches(), FETCHES);
        }
        int fifth = x.ask(0, 1, 0, 0, 0, 0);
        Look.answerDue(x, fifth, "failed");
        Check.due("onWay(0)", x.onWay(0), 1);
        x.pass(1);
        Look.answerDue(x, fifth - 1, "fetched 1 " + x.second());
        Look.answerDue(x, fifth, "failed");
        Look.answerDue(x, x.ask(0, 1, 0, 0, 0, 0), "fresh 1 " + x.second());
    }

    /** One for whom there are no more has come all the same: so two have, when the last answer comes. */
    private static void theRefusedOneHasCome(boolean isAskedAgain) {
        EdgeOrchard x = new EdgeOrchard();
        x.page(2, 0, 0, 0, 0, 0);
        x.page(2, 0, 9, 0, 0, 0);
        for (int k = 0; k < 6; k++) {
            x.place(k - 1, 1, 40, k == 0);
        }
        fill(x, FETCHES);
        fillOneByOne(x, 399);
        x.ask(0, 1, 0, 0, 0, 0);
        if (isAskedAgain) {
            Look.answerDue(x, x.ask(0, 1, 0, 0, 1, 1), "failed");
        }
        x.pass(1);
        Look.copyDue(x, 0, 1, isAskedAgain ? "1 " + x.second() + " 1 -1" : "none");
    }

    public static void main(String[] args) {
        for (int seconds = 30; seconds <= 33; seconds++) {
            whatIsStaleForThePlaceBelow(seconds);
        }
        privateAtTheLimit();
        fourWaitForTheLast();
        atOnceForAReader();
        anErrorForThePlaceBelow();
        keptInMindBelow();
        comingAnewWhenThereAreNoMore();
        theRefusedOneHasCome(true);
        theRefusedOneHasCome(false);
        Check.end("LimitsTest");
    }
}
