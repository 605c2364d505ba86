/** Promises 4, 16, 17: how places learn by what a page varies, and what is done with private pages. */
public final class VariesTest {
    private static final Class<IndexOutOfBoundsException> NO_SUCH = IndexOutOfBoundsException.class;
    private static final int LANGUAGE = EdgeOrchard.BY_LANGUAGE;
    private static final int KIND = EdgeOrchard.BY_KIND;
    private static final int PRIVATE = EdgeOrchard.PRIVATE;

    private static EdgeOrchard orchard(int varies, int delay) {
        EdgeOrchard x = new EdgeOrchard();
        x.page(1, varies, 50, 0, 0, 0);
        x.place(-1, delay, 40, false);
        return x;
    }

    private static void learntFromAnswers() {
        for (int varies = 0; varies < 8; varies++) {
            EdgeOrchard x = orchard(varies, 2);
            x.page(1, 7 - varies, 50, 0, 0, 0);
            Check.due("varies(0, 0) of nothing", x.varies(0, 0), -1);
            x.ask(0, 0, 0, 0, 0, 0);
            x.pass(1);
            Check.due("varies(0, 0) on the way", x.varies(0, 0), -1);
            x.pass(1);
            Check.due("varies(0, 0)", x.varies(0, 0), varies);
            Check.due("varies(0, 1)", x.varies(0, 1), -1);
            x.rules(0, 7 - varies, 50, 0, 0);
            Check.due("varies(0, 0) behind rules", x.varies(0, 0), varies);
        }
        EdgeOrchard x = orchard(0, 1);
        x.down(true);
        x.ask(0, 0, 0, 0, 0, 0);
        x.pass(1);
        Check.due("varies(0, 0) behind an error", x.varies(0, 0), -1);
        for (int wrong : new int[] {-1, 1, Integer.MAX_VALUE, Integer.MIN_VALUE}) {
            Check.throwsDue("varies(" + wrong + ", 0)", NO_SUCH, () -> x.varies(wrong, 0));
            Check.throwsDue("varies(0, " + wrong + ")", NO_SUCH, () -> x.varies(0, wrong));
        }
    }

    /** Which of the six asks gets a copy that is there for language 1 and kind 1. */
    private static void copiesByWhatVaries(int varies, int copiesForAll, String hits) {
        EdgeOrchard x = orchard(varies, 1);
        x.ask(0, 0, 1, 1, 0, 0);
        x.pass(1);
        StringBuilder got = new StringBuilder();
        for (int language = 0; language < 3; language++) {
            for (int kind = 0; kind < 2; kind++) {
                int ask = x.ask(0, 0, language, kind, 0, 0);
                boolean isHit = x.answer(ask, 0) == EdgeOrchard.ANSWERED;
                got.append(isHit ? '1' : '0');
                Check.due("copy for " + language + ", " + kind, x.copy(0, 0, language, kind, 0), isHit ? 1 : -1);
            }
        }
        Check.same("hits, varies " + varies, got.toString(), hits);
        x.pass(1);
        Check.due("copies(0) for all, varies " + varies, x.copies(0), copiesForAll);
        Check.due("held(0) for all, varies " + varies, x.held(0), copiesForAll);
    }

    /** What was learnt is learnt anew, and the copies are gone if it is otherwise, also if it varies by less. */
    private static void learntOtherwise() {
        EdgeOrchard x = orchard(LANGUAGE, 1);
        x.page(1, 0, 50, 0, 0, 0);
        x.ask(0, 1, 0, 0, 0, 0);
        x.ask(0, 0, 0, 0, 0, 0);
        x.ask(0, 0, 1, 0, 0, 0);
        x.pass(1);
        Check.due("copies(0)", x.copies(0), 3);
        x.rules(0, LANGUAGE, 40, 0, 0);
        x.ask(0, 0, 2, 0, 0, 0);
        x.pass(1);
        Check.due("copies(0) of the same", x.copies(0), 4);
        x.rules(0, LANGUAGE | KIND, 40, 0, 0);
        x.pass(50);
        x.ask(0, 0, 2, 0, 0, 0);
        x.pass(1);
        Check.due("copies(0) of more", x.copies(0), 2);
        Look.copyDue(x, 0, 0, 2, 0, "1 53 1 -1");
        Look.copyDue(x, 0, 0, 2, 1, "none");
        Look.copyDue(x, 0, 0, 0, 0, "none");
        Look.copyDue(x, 0, 1, "1 1 1 -1");
        x.rules(0, KIND, 40, 0, 0);
        x.ask(0, 0, 0, 1, 0, 0);
        x.pass(1);
        Check.due("copies(0) of less", x.copies(0), 2);
        Look.copyDue(x, 0, 0, 2, 1, "1 54 1 -1");
        Look.copyDue(x, 0, 0, 2, 0, "none");
        x.rules(0, PRIVATE | KIND, 40, 0, 0);
        x.ask(0, 0, 0, 0, 0, 0);
        x.pass(1);
        Check.due("copies(0) of a private one", x.copies(0), 1);
        Check.due("held(0) of a private one", x.held(0), 1);
        Check.due("varies(0, 0)", x.varies(0, 0), 6);
    }

    /** The first that waits gets what is private, the others come anew, and each is fetched for alone. */
    private static void privateForTheFirstAlone(int varies) {
        EdgeOrchard x = orchard(varies, 1);
        for (int k = 0; k < 4; k++) {
            x.ask(0, 0, 0, 0, 0, 0);
        }
        Check.due("fetches() while nothing is known", x.fetches(), 1);
        x.pass(1);
        Look.answerDue(x, 0, "fetched 1 1");
        for (int k = 1; k < 4; k++) {
            Look.answerDue(x, k, "waiting");
        }
        Check.due("fetches() for the others", x.fetches(), 4);
        Check.due("onWay(0) for the others", x.onWay(0), 3);
        Check.due("served(0) of one", x.served(0), 1);
        x.ask(0, 0, 0, 0, 0, 0);
        Check.due("fetches() when it is known", x.fetches(), 5);
        x.update(0);
        x.pass(1);
        for (int k = 1; k < 5; k++) {
            Look.answerDue(x, k, "fetched 2 2");
        }
        Check.due("copies(0)", x.copies(0), 0);
        Check.due("served(0)", x.served(0), 5);
        Check.due("fetched(0)", x.fetched(0), 5);
        Check.due("fetches()", x.fetches(), 5);
    }

    /**
     * Two places below, with two asks each, wait for one fetch: the first place gets the answer, gives it to its first
     * ask and fetches for its second; only then the other place's fetch comes anew above.
     */
    private static void privateThroughTiers() {
        EdgeOrchard x = orchard(PRIVATE, 3);
        x.place(0, 1, 40, false);
        x.place(0, 1, 40, false);
        x.ask(1, 0, 0, 0, 0, 0);
        x.ask(1, 0, 0, 0, 0, 0);
        x.ask(2, 0, 0, 0, 0, 0);
        x.ask(2, 0, 0, 0, 0, 0);
        x.pass(1);
        Check.due("fetches(): two below, one above", x.fetches(), 3);
        x.pass(3);
        Look.answerDue(x, 0, "fetched 1 4");
        Look.answerDue(x, 1, "waiting");
        Check.due("varies(1, 0)", x.varies(1, 0), PRIVATE);
        Check.due("varies(2, 0)", x.varies(2, 0), -1);
        Check.due("fetches(): one anew below and one above", x.fetches(), 5);
        Check.due("onWay(0)", x.onWay(0), 1);
        Check.due("onWay(1)", x.onWay(1), 1);
        Check.due("onWay(2)", x.onWay(2), 1);
        x.pass(3);
        Look.answerDue(x, 2, "fetched 1 7");
        Look.answerDue(x, 1, "waiting");
        x.pass(1);
        Look.answerDue(x, 1, "fetched 1 8");
        x.pass(3);
        Look.answerDue(x, 3, "fetched 1 11");
        Check.due("served(0)", x.served(0), 4);
        Check.due("served(1)", x.served(1), 2);
        Check.due("fetched(2)", x.fetched(2), 2);
    }

    /** A fetch for one alone takes nobody on, also when the place knows that the page is private no more. */
    private static void aloneTakesNobodyOn() {
        EdgeOrchard x = orchard(PRIVATE, 2);
        x.ask(0, 0, 0, 0, 0, 0);
        x.pass(2);
        x.rules(0, 0, 0, 0, 0);
        x.ask(0, 0, 0, 0, 0, 0);
        x.pass(1);
        x.ask(0, 0, 0, 0, 0, 0);
        x.pass(1);
        Check.due("varies(0, 0)", x.varies(0, 0), 0);
        Look.copyDue(x, 0, 0, "1 4 1 -1");
        x.ask(0, 0, 0, 0, 0, 0);
        Check.due("fetches(): none takes it on", x.fetches(), 4);
        x.ask(0, 0, 0, 0, 0, 0);
        Check.due("fetches(): that one does", x.fetches(), 4);
        x.pass(1);
        Look.answerDue(x, 2, "fetched 1 5");
        Look.answerDue(x, 3, "waiting");
    }

    /** All that wait get the answer, also those that asked in a language by which it turns out to vary. */
    private static void learntWhileTheyWait() {
        EdgeOrchard x = orchard(0, 1);
        x.ask(0, 0, 0, 0, 0, 0);
        x.pass(1);
        x.rules(0, LANGUAGE, 50, 0, 0);
        x.pass(50);
        x.ask(0, 0, 1, 0, 0, 0);
        x.ask(0, 0, 2, 0, 0, 0);
        Check.due("fetches(): it does not vary yet", x.fetches(), 2);
        x.pass(1);
        Look.answerDue(x, 1, "fetched 1 52");
        Look.answerDue(x, 2, "fetched 1 52");
        Look.copyDue(x, 0, 0, 1, 0, "1 52 1 -1");
        Look.copyDue(x, 0, 0, 2, 0, "none");
    }

    public static void main(String[] args) {
        learntFromAnswers();
        copiesByWhatVaries(0, 1, "111111");
        copiesByWhatVaries(LANGUAGE, 3, "001100");
        copiesByWhatVaries(KIND, 2, "010101");
        copiesByWhatVaries(LANGUAGE | KIND, 6, "000100");
        copiesByWhatVaries(PRIVATE, 0, "000000");
        learntOtherwise();
        for (int varies = PRIVATE; varies <= 7; varies++) {
            privateForTheFirstAlone(varies);
        }
        privateThroughTiers();
        aloneTakesNobodyOn();
        learntWhileTheyWait();
        Check.end("VariesTest");
    }
}
