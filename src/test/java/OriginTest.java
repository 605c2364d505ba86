/** Promises 2 page, 3 update, 4 rules, 5 down, 22 origin. */
public final class OriginTest {
    private static final Class<IndexOutOfBoundsException> NO_SUCH = IndexOutOfBoundsException.class;
    private static final Class<IllegalArgumentException> WRONG = IllegalArgumentException.class;
    private static final Class<IllegalStateException> FULL = IllegalStateException.class;
    private static final int FAR = Integer.MAX_VALUE;
    private static final int LOW = Integer.MIN_VALUE;

    /** A page, a place with delay 1 and much room, and a copy of all of the page there, told in second 1. */
    private static EdgeOrchard withCopy(int pieces, int varies, int life, int meanwhile, int onErrors) {
        EdgeOrchard x = new EdgeOrchard();
        x.page(pieces, varies, life, meanwhile, onErrors, 0);
        x.place(-1, 1, 40, false);
        x.ask(0, 0, 0, 0, 0, pieces - 1);
        x.pass(1);
        return x;
    }

    private static void pagesAtTheirEdges() {
        EdgeOrchard x = new EdgeOrchard();
        Check.due("page of least", x.page(1, 0, 0, 0, 0, 0), 0);
        Check.due("page of most", x.page(8, 7, 100, 50, 200, 15), 1);
        int[][] wrong = {
            {0, 0, 0, 0, 0, 0}, {9, 0, 0, 0, 0, 0}, {1, -1, 0, 0, 0, 0}, {1, 8, 0, 0, 0, 0}, {1, 0, -1, 0, 0, 0},
            {1, 0, 101, 0, 0, 0}, {1, 0, 0, -1, 0, 0}, {1, 0, 0, 51, 0, 0}, {1, 0, 0, 0, -1, 0}, {1, 0, 0, 0, 201, 0},
            {1, 0, 0, 0, 0, -1}, {1, 0, 0, 0, 0, 16}, {FAR, 0, 0, 0, 0, 0}, {1, LOW, 0, 0, 0, 0}, {1, 0, FAR, 0, 0, 0},
            {1, 0, 0, LOW, 0, 0}, {1, 0, 0, 0, FAR, 0}, {1, 0, 0, 0, 0, LOW}};
        for (int[] w : wrong) {
            Check.throwsDue("page" + java.util.Arrays.toString(w), WRONG, () -> x.page(w[0], w[1], w[2], w[3], w[4], w[5]));
        }
        Check.due("the page after calls that threw", x.page(1, 0, 0, 0, 0, 0), 2);
        for (int k = 3; k < 12; k++) {
            Check.due("page " + k, x.page(1, 0, 0, 0, 0, 0), k);
        }
        Check.throwsDue("the 13th page", FULL, () -> x.page(1, 0, 0, 0, 0, 0));
        Check.throwsDue("a wrong 13th page", WRONG, () -> x.page(0, 0, 0, 0, 0, 0));
        Check.throwsDue("a 13th page with wrong marks", WRONG, () -> x.page(1, 0, 0, 0, 0, 16));
        Check.due("update(11)", x.update(11), 2);
        Check.throwsDue("update(12)", NO_SUCH, () -> x.update(12));
    }

    private static void versionsRise() {
        EdgeOrchard x = withCopy(2, 0, 5, 0, 0);
        Check.due("copy's version", x.copy(0, 0, 0, 0, 0), 1);
        Check.due("update(0)", x.update(0), 2);
        Check.due("update(0) again", x.update(0), 3);
        x.page(1, 0, 0, 0, 0, 0);
        Check.due("update of another page", x.update(1), 2);
        Check.due("a copy keeps its version", x.copy(0, 0, 0, 0, 0), 1);
        Check.throwsDue("update(-1)", NO_SUCH, () -> x.update(-1));
        Check.throwsDue("update(2)", NO_SUCH, () -> x.update(2));
        Check.throwsDue("update(FAR)", NO_SUCH, () -> x.update(FAR));
        x.pass(5);
        x.ask(0, 0, 0, 0, 0, 1);
        x.pass(1);
        Look.answerDue(x, 1, "fetched 3 7");
    }

    private static void rulesAreToldAnew() {
        EdgeOrchard x = withCopy(1, EdgeOrchard.BY_KIND, 5, 0, 0);
        Check.due("rules(0, ..)", x.rules(0, 7, 100, 50, 200), 2);
        Check.due("rules(0, ..) again", x.rules(0, 0, 0, 0, 0), 7);
        Check.due("the same rules", x.rules(0, 0, 0, 0, 0), 0);
        int[][] wrong = {
            {-1, 0, 0, 0}, {8, 0, 0, 0}, {0, -1, 0, 0}, {0, 101, 0, 0}, {0, 0, -1, 0}, {0, 0, 51, 0}, {0, 0, 0, -1},
            {0, 0, 0, 201}, {LOW, 0, 0, 0}, {0, FAR, 0, 0}, {0, 0, FAR, 0}, {0, 0, 0, FAR}};
        for (int[] w : wrong) {
            String call = java.util.Arrays.toString(w);
            Check.throwsDue("rules(0) " + call, WRONG, () -> x.rules(0, w[0], w[1], w[2], w[3]));
            Check.throwsDue("rules(1) " + call, NO_SUCH, () -> x.rules(1, w[0], w[1], w[2], w[3]));
            Check.throwsDue("rules(-1) " + call, NO_SUCH, () -> x.rules(-1, w[0], w[1], w[2], w[3]));
        }
        Check.throwsDue("rules(1) with good ones", NO_SUCH, () -> x.rules(1, 0, 0, 0, 0));
        Check.due("rules after calls that threw", x.rules(0, 1, 3, 2, 4), 0);
    }

    /** A copy goes by the rules that were told with it, until it is told anew. */
    private static void copiesKeepTheirRules() {
        EdgeOrchard x = withCopy(1, 0, 5, 0, 0);
        x.rules(0, 0, 20, 0, 0);
        x.pass(4);
        x.ask(0, 0, 0, 0, 0, 0);
        Look.answerDue(x, 1, "fresh 1 1");
        x.pass(1);
        x.ask(0, 0, 0, 0, 0, 0);
        Look.answerDue(x, 2, "waiting");
        x.pass(1);
        Look.answerDue(x, 2, "fetched 1 7");
        x.pass(19);
        x.ask(0, 0, 0, 0, 0, 0);
        Look.answerDue(x, 3, "fresh 1 7");
        x.pass(1);
        x.ask(0, 0, 0, 0, 0, 0);
        Look.answerDue(x, 4, "waiting");
    }

    private static void originIsDown() {
        EdgeOrchard x = withCopy(1, 0, 1, 0, 0);
        Check.due("origin()", x.origin(), 1);
        Check.due("down(true)", x.down(true), false);
        Check.due("down(true) again", x.down(true), true);
        x.pass(1);
        x.ask(0, 0, 0, 0, 0, 0);
        Look.answerDue(x, 1, "waiting");
        x.pass(1);
        Look.answerDue(x, 1, "failed");
        Check.due("origin() while down", x.origin(), 1);
        Check.due("down(false)", x.down(false), true);
        Check.due("down(false) again", x.down(false), false);
        x.pass(2);
        x.ask(0, 0, 0, 0, 0, 0);
        x.down(true);
        x.down(false);
        x.pass(1);
        Look.answerDue(x, 2, "fetched 1 6");
        Check.due("origin() when up", x.origin(), 2);
    }

    public static void main(String[] args) {
        pagesAtTheirEdges();
        versionsRise();
        rulesAreToldAnew();
        copiesKeepTheirRules();
        originIsDown();
        Check.end("OriginTest");
    }
}
