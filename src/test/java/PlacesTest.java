/** Promises 6 place, 7 cut, and how fetches come from place to place: 18 served, 19 fetched, 20 fetches, 21 onWay. */
public final class PlacesTest {
    private static final Class<IndexOutOfBoundsException> NO_SUCH = IndexOutOfBoundsException.class;
    private static final Class<IllegalArgumentException> WRONG = IllegalArgumentException.class;
    private static final Class<IllegalStateException> FULL = IllegalStateException.class;
    private static final int FAR = Integer.MAX_VALUE;
    private static final int LOW = Integer.MIN_VALUE;

    private static void placesAtTheirEdges() {
        EdgeOrchard x = new EdgeOrchard();
        Check.throwsDue("place(0, 1, 1) without places", NO_SUCH, () -> x.place(0, 1, 1, false));
        Check.due("place of least", x.place(-1, 1, 1, false), 0);
        Check.due("place of most", x.place(0, 9, 40, true), 1);
        int[][] wrong = {{0, 1}, {10, 1}, {1, 0}, {1, 41}, {-1, 1}, {1, -1}, {FAR, 1}, {1, FAR}, {LOW, 1}, {1, LOW}};
        for (int[] w : wrong) {
            Check.throwsDue("place(-1, " + w[0] + ", " + w[1] + ")", WRONG, () -> x.place(-1, w[0], w[1], false));
            Check.throwsDue("place(2, " + w[0] + ", " + w[1] + ")", NO_SUCH, () -> x.place(2, w[0], w[1], false));
            Check.throwsDue("place(-2, " + w[0] + ", " + w[1] + ")", NO_SUCH, () -> x.place(-2, w[0], w[1], false));
        }
        Check.throwsDue("place(2, 1, 1)", NO_SUCH, () -> x.place(2, 1, 1, false));
        Check.throwsDue("place(-2, 1, 1)", NO_SUCH, () -> x.place(-2, 1, 1, false));
        Check.throwsDue("place(FAR, 1, 1)", NO_SUCH, () -> x.place(FAR, 1, 1, false));
        for (int k = 2; k < 6; k++) {
            Check.due("place " + k, x.place(k - 1, 1, 1, false), k);
        }
        Check.throwsDue("a seventh place", FULL, () -> x.place(5, 1, 1, false));
        Check.throwsDue("a wrong seventh place", WRONG, () -> x.place(5, 0, 1, false));
        Check.throwsDue("a seventh place below none", NO_SUCH, () -> x.place(6, 0, 1, false));
        Check.due("cut(5, false)", x.cut(5, false), false);
        Check.throwsDue("cut(6, false)", NO_SUCH, () -> x.cut(6, false) ? 1 : 0);
        Check.throwsDue("cut(-1, true)", NO_SUCH, () -> x.cut(-1, true) ? 1 : 0);
    }

    private static EdgeOrchard sixTiers() {
        EdgeOrchard x = new EdgeOrchard();
        x.page(8, 0, 50, 0, 0, 0);
        for (int k = 0; k < 6; k++) {
            x.place(k - 1, 1 + k, 40, false);
        }
        return x;
    }

    /** Delays are 1 at the top to 6 at the bottom: the origin is asked after 21 seconds. */
    private static void sixTiersAskOneAnother() {
        EdgeOrchard x = sixTiers();
        x.ask(5, 0, 0, 0, 2, 4);
        x.pass(5);
        Check.due("fetches() ahead of the first coming", x.fetches(), 1);
        x.pass(1);
        Check.due("fetches() when it has come", x.fetches(), 2);
        x.pass(14);
        Check.due("fetches() of six tiers", x.fetches(), 6);
        Check.due("origin()", x.origin(), 0);
        for (int k = 0; k < 6; k++) {
            Check.due("onWay(" + k + ")", x.onWay(k), 1);
        }
        x.pass(1);
        Check.due("origin()", x.origin(), 1);
        Look.answerDue(x, 0, "fetched 1 21");
        for (int k = 0; k < 6; k++) {
            Check.due("onWay(" + k + ")", x.onWay(k), 0);
            Check.due("served(" + k + ")", x.served(k), 3);
            Check.due("fetched(" + k + ")", x.fetched(k), 3);
            Look.copyDue(x, k, 0, "1 21 28 -1");
        }
    }

    /** The middle one has it: nothing above is asked, and each place below keeps it with the time that it has. */
    private static void aCopyIsPassedDownWithItsTime() {
        EdgeOrchard x = sixTiers();
        x.ask(2, 0, 0, 0, 0, 7);
        x.pass(6);
        Look.answerDue(x, 0, "fetched 1 6");
        x.ask(4, 0, 0, 0, 3, 3);
        x.pass(9);
        Look.answerDue(x, 1, "fetched 1 6");
        Look.copyDue(x, 4, 0, "1 6 8 -1");
        Look.copyDue(x, 3, 0, "1 6 8 -1");
        Check.due("served(2)", x.served(2), 9);
        Check.due("served(3)", x.served(3), 1);
        Check.due("served(4)", x.served(4), 1);
        Check.due("fetched(2)", x.fetched(2), 8);
        Check.due("fetched(3)", x.fetched(3), 1);
        Check.due("copies(5)", x.copies(5), 0);
        Check.due("fetches()", x.fetches(), 5);
        x.pass(40);
        x.ask(4, 0, 0, 0, 3, 3);
        Look.answerDue(x, 2, "fresh 1 6");
        x.pass(1);
        x.ask(4, 0, 0, 0, 3, 3);
        Look.answerDue(x, 3, "waiting");
    }

    private static void cutOffWhenItComes() {
        EdgeOrchard x = new EdgeOrchard();
        x.page(1, 0, 2, 0, 0, 0);
        x.place(-1, 2, 5, false);
        x.place(0, 3, 5, false);
        Check.due("cut(1, true)", x.cut(1, true), false);
        Check.due("cut(1, true) again", x.cut(1, true), true);
        x.ask(1, 0, 0, 0, 0, 0);
        x.pass(2);
        Look.answerDue(x, 0, "waiting");
        x.pass(1);
        Look.answerDue(x, 0, "failed");
        Check.due("fetches() when cut off", x.fetches(), 1);
        Check.due("onWay(1) when cut off", x.onWay(1), 0);
        Check.due("cut(1, false)", x.cut(1, false), true);
        Check.due("cut(1, false) again", x.cut(1, false), false);
        x.pass(2);
        x.ask(1, 0, 0, 0, 0, 0);
        x.cut(1, true);
        x.pass(2);
        x.cut(1, false);
        x.pass(1);
        Check.due("fetches(): cut off only on the way", x.fetches(), 3);
        // The fetch waits at the place above: that this is cut off again matters no more, that the upper one is does.
        x.cut(1, true);
        x.pass(2);
        Look.answerDue(x, 1, "fetched 1 10");
        x.cut(1, false);
        x.pass(2);
        x.ask(1, 0, 0, 0, 0, 0);
        x.cut(0, true);
        x.pass(4);
        Look.answerDue(x, 2, "waiting");
        x.pass(1);
        Look.answerDue(x, 2, "failed");
        Check.due("origin() with errors", x.origin(), 1);
    }

    /** A place that is cut off still answers what comes to it. */
    private static void aPlaceCutOffAnswers() {
        EdgeOrchard x = new EdgeOrchard();
        x.page(2, 0, 50, 0, 0, 0);
        x.place(-1, 1, 5, false);
        x.place(0, 1, 5, false);
        x.ask(0, 0, 0, 0, 0, 1);
        x.pass(1);
        x.cut(0, true);
        x.ask(1, 0, 0, 0, 1, 1);
        x.ask(0, 0, 0, 0, 1, 1);
        x.pass(1);
        Look.answerDue(x, 1, "fetched 1 1");
        Look.answerDue(x, 2, "fresh 1 1");
        Check.due("served(0)", x.served(0), 4);
    }

    private static void servedAndFetched() {
        EdgeOrchard x = new EdgeOrchard();
        x.page(4, EdgeOrchard.BY_LANGUAGE, 50, 0, 0, 0);
        x.place(-1, 3, 40, false);
        x.ask(0, 0, 0, 0, 0, 3);
        x.ask(0, 0, 0, 1, 1, 2);
        x.ask(0, 0, 1, 0, 1, 2);
        Check.due("served(0) ahead of answers", x.served(0), 0);
        Check.due("fetched(0) ahead of answers", x.fetched(0), 0);
        x.pass(3);
        // Behind learning, the second fetch is for what is there already; the third is for another language.
        Check.due("served(0)", x.served(0), 8);
        Check.due("fetched(0)", x.fetched(0), 6);
        x.ask(0, 0, 2, 0, 0, 0);
        x.ask(0, 0, 2, 0, 0, 1);
        x.pass(3);
        Check.due("fetched(0), all pieces of the second one", x.fetched(0), 9);
        x.ask(0, 0, 1, 1, 2, 3);
        x.update(0);
        x.ask(0, 0, 1, 1, 1, 1);
        x.pass(3);
        Check.due("served(0) at last", x.served(0), 14);
        Check.due("fetched(0) of another version", x.fetched(0), 11);
        for (int wrong : new int[] {-1, 1, FAR, LOW}) {
            Check.throwsDue("served(" + wrong + ")", NO_SUCH, () -> x.served(wrong));
            Check.throwsDue("fetched(" + wrong + ")", NO_SUCH, () -> x.fetched(wrong));
            Check.throwsDue("onWay(" + wrong + ")", NO_SUCH, () -> x.onWay(wrong));
            Check.throwsDue("cut(" + wrong + ", true)", NO_SUCH, () -> x.cut(wrong, true) ? 1 : 0);
        }
    }

    public static void main(String[] args) {
        placesAtTheirEdges();
        sixTiersAskOneAnother();
        aCopyIsPassedDownWithItsTime();
        cutOffWhenItComes();
        aPlaceCutOffAnswers();
        servedAndFetched();
        Check.end("PlacesTest");
    }
}
