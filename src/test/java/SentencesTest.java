/** Sentences of the document without a boundary, each told apart from what it might be misread as. */
public final class SentencesTest {
    private static final int BY_LANGUAGE = EdgeOrchard.BY_LANGUAGE;
    private static final int PRIVATE = EdgeOrchard.PRIVATE;

    private static void passTo(EdgeOrchard x, int second) {
        while (x.second() < second) {
            x.pass(1);
        }
    }

    /**
     * "(for nobody: of the latest hard purge at the place, likewise)": not of the fetch that was given the stale copy. The
     * purge of 8 has come to places 1 and 2, but not to 0; one fetch for nobody above -1 does not take on a second that
     * needs a time above 8.
     */
    private static void forNobodyOfThePlacesOwnPurge() {
        EdgeOrchard x = new EdgeOrchard();
        x.page(1, 0, 0, 50, 0, 0);
        x.place(-1, 9, 40, false);
        x.place(0, 1, 40, false);
        x.place(0, 1, 40, false);
        x.ask(0, 0, 0, 0, 0, 0);
        passTo(x, 8);
        x.purge(0, true);
        x.pass(1);
        Look.copyDue(x, 0, 0, "1 9 1 -1");
        x.ask(1, 0, 0, 0, 0, 0);
        x.pass(1);
        Look.answerDue(x, 1, "fetched 1 9");
        Check.due("fetches(), one for nobody", x.fetches(), 3);
        x.ask(2, 0, 0, 0, 0, 0);
        x.pass(1);
        Look.answerDue(x, 2, "fetched 1 9");
        Check.due("fetches(), two for nobody", x.fetches(), 5);
        Check.due("onWay(0)", x.onWay(0), 2);
        x.ask(0, 0, 0, 0, 0, 0);
        Look.answerDue(x, 3, "stale 1 9");
        Check.due("fetches(): an ask needs no more than -1 there", x.fetches(), 5);
    }

    /** "for the same page, the same language and kind": a fetch for nobody is for those of what was given. */
    private static void forNobodyInItsLanguageAndKind() {
        for (int language = 0; language < 3; language++) {
            for (int kind = 0; kind < 2; kind++) {
                EdgeOrchard x = new EdgeOrchard();
                x.page(1, 3, 0, 50, 0, 0);
                x.place(-1, 1, 40, false);
                x.ask(0, 0, language, kind, 0, 0);
                x.pass(1);
                x.ask(0, 0, language, kind, 0, 0);
                Look.answerDue(x, 1, "stale 1 1");
                x.pass(1);
                Check.due("copies(0)", x.copies(0), 1);
                Look.copyDue(x, 0, 0, language, kind, "1 2 1 -1");
            }
        }
    }

    /** "3. If the place has got an error": an answer that comes behind the error does not make it forgotten. */
    private static void anErrorBehindWhichAnAnswerComes() {
        EdgeOrchard x = new EdgeOrchard();
        x.page(2, 0, 50, 0, 0, 0);
        x.place(-1, 2, 40, false);
        x.ask(0, 0, 0, 0, 0, 0);
        x.pass(1);
        x.ask(0, 0, 1, 0, 0, 0);
        x.down(true);
        x.pass(1);
        Look.answerDue(x, 0, "failed");
        x.down(false);
        x.pass(1);
        Look.answerDue(x, 1, "fetched 1 3");
        x.ask(0, 0, 0, 0, 0, 0);
        Look.answerDue(x, 2, "fresh 1 3");
        x.ask(0, 0, 0, 0, 1, 1);
        Look.answerDue(x, 3, "failed");
        x.pass(1);
        x.ask(0, 0, 0, 0, 1, 1);
        Look.answerDue(x, 4, "waiting");
    }

    /** Nor does a purge that comes. */
    private static void anErrorBehindWhichAPurgeComes(boolean isHard) {
        EdgeOrchard x = new EdgeOrchard();
        x.page(1, 0, 50, 0, 0, 0);
        x.place(-1, 1, 40, false);
        x.down(true);
        x.ask(0, 0, 0, 0, 0, 0);
        x.pass(1);
        x.down(false);
        x.purge(0, isHard);
        x.pass(1);
        Check.due("isDone(0)", x.isDone(0), true);
        x.ask(0, 0, 0, 0, 0, 0);
        Look.answerDue(x, 1, "failed");
    }

    /** "each that waits gets a copy ..., as stale": also one that has become fresh while it waited. */
    private static void onErrorsAsStale() {
        EdgeOrchard x = new EdgeOrchard();
        x.page(2, 0, 10, 0, 0, 0);
        x.place(-1, 5, 40, false);
        x.ask(0, 0, 0, 0, 0, 0);
        x.ask(0, 0, 0, 0, 1, 1);
        x.pass(1);
        x.ask(0, 0, 0, 0, 0, 1);
        x.pass(4);
        Look.copyDue(x, 0, 0, "1 5 3 -1");
        x.down(true);
        x.pass(1);
        Look.answerDue(x, 2, "stale 1 5");
        x.ask(0, 0, 0, 0, 0, 1);
        Look.answerDue(x, 3, "fresh 1 5");
        Check.due("fetches()", x.fetches(), 3);
    }

    /** "the one that was given ... the longest ago": a copy that was given stale, before it is kept anew. */
    private static void givenStaleAloneIsGiven() {
        EdgeOrchard x = new EdgeOrchard();
        for (int page = 0; page < 4; page++) {
            x.page(1, 0, 0, 50, 0, 0);
        }
        x.place(-1, 3, 3, false);
        for (int page = 0; page < 3; page++) {
            x.ask(0, page, 0, 0, 0, 0);
        }
        x.pass(3);
        x.ask(0, 3, 0, 0, 0, 0);
        x.pass(1);
        x.ask(0, 0, 0, 0, 0, 0);
        Look.answerDue(x, 4, "stale 1 3");
        x.pass(2);
        Look.copyDue(x, 0, 3, "1 6 1 -1");
        Look.copyDue(x, 0, 0, "1 3 1 -1");
        Look.copyDue(x, 0, 1, "none");
        Look.copyDue(x, 0, 2, "1 3 1 -1");
    }

    /** "the others come to the place anew": each is then fetched for alone, so that its error is not kept in mind. */
    private static void anewIsAlone() {
        EdgeOrchard x = new EdgeOrchard();
        x.page(1, PRIVATE, 0, 0, 0, 0);
        x.place(-1, 2, 40, false);
        x.ask(0, 0, 0, 0, 0, 0);
        x.ask(0, 0, 0, 0, 0, 0);
        x.pass(1);
        x.ask(0, 0, 1, 0, 0, 0);
        x.pass(1);
        Look.answerDue(x, 0, "fetched 1 2");
        Look.answerDue(x, 1, "waiting");
        Check.due("fetches()", x.fetches(), 3);
        x.rules(0, 0, 0, 0, 0);
        x.pass(1);
        Check.due("varies(0, 0) behind the answer of 3", x.varies(0, 0), 0);
        x.ask(0, 0, 0, 0, 0, 0);
        Check.due("fetches(): the one alone takes nobody on", x.fetches(), 4);
        x.down(true);
        x.pass(1);
        Look.answerDue(x, 1, "failed");
        x.ask(0, 0, 2, 0, 0, 0);
        Look.answerDue(x, 4, "waiting");
        Check.due("fetches(): it waits for that of 3", x.fetches(), 4);
    }

    /**
     * "Then all that wait ..., in the order in which they came; what a fetch gets so is an answer there, and so on": the
     * fetch from below goes first, so that what comes anew below has a lower number than what comes anew above. Both come
     * in second 6: the lower one finds the page private still, the other one learns that it is not.
     */
    private static void anewBelowAheadOfTheNext() {
        EdgeOrchard x = new EdgeOrchard();
        x.page(1, PRIVATE, 9, 0, 0, 0);
        x.place(-1, 2, 40, false);
        x.place(0, 2, 40, false);
        x.ask(1, 0, 0, 0, 0, 0);
        x.ask(1, 0, 0, 0, 0, 0);
        x.pass(2);
        x.ask(0, 0, 0, 0, 0, 0);
        x.pass(2);
        Look.answerDue(x, 0, "fetched 1 4");
        Look.answerDue(x, 1, "waiting");
        Look.answerDue(x, 2, "waiting");
        Check.due("fetches() behind the private answer", x.fetches(), 4);
        x.rules(0, 0, 9, 0, 0);
        x.pass(2);
        Look.answerDue(x, 2, "fetched 1 6");
        Look.answerDue(x, 1, "waiting");
        Check.due("fetches(): one more, alone", x.fetches(), 5);
        x.pass(2);
        Look.answerDue(x, 1, "fetched 1 8");
    }

    /** "at least two ... have come to it": also one that waits for the other's fetch, or has a fresh copy, or failed. */
    private static void comingsInAnyWay() {
        EdgeOrchard x = new EdgeOrchard();
        x.page(1, 0, 5, 0, 0, 0);
        x.place(-1, 2, 40, true);
        x.place(0, 1, 40, false);
        x.ask(0, 0, 0, 0, 0, 0);
        x.ask(0, 0, 0, 0, 0, 0);
        Check.due("fetches(): one waits for the other's", x.fetches(), 1);
        x.pass(2);
        Look.copyDue(x, 0, 0, "1 2 1 -1");
        EdgeOrchard y = new EdgeOrchard();
        y.page(1, 0, 5, 0, 0, 0);
        y.place(-1, 2, 40, true);
        y.place(0, 1, 40, false);
        y.ask(1, 0, 0, 0, 0, 0);
        y.pass(1);
        y.ask(0, 0, 0, 0, 0, 0);
        Check.due("fetches(): one waits for one from below", y.fetches(), 2);
        y.pass(2);
        Look.copyDue(y, 0, 0, "1 3 1 -1");
    }

    /** They are counted on, whatever becomes of the copy: here a hard purge takes it, a full room, and learning. */
    private static void comingsAreCountedOn() {
        EdgeOrchard x = new EdgeOrchard();
        x.page(1, 0, 50, 0, 0, 0);
        x.page(1, 0, 50, 0, 0, 0);
        x.place(-1, 1, 1, true);
        x.ask(0, 0, 0, 0, 0, 0);
        x.ask(0, 0, 0, 0, 0, 0);
        x.pass(1);
        Look.copyDue(x, 0, 0, "1 1 1 -1");
        x.purge(0, true);
        x.pass(1);
        Look.copyDue(x, 0, 0, "none");
        x.ask(0, 0, 0, 0, 0, 0);
        x.pass(1);
        Look.copyDue(x, 0, 0, "1 3 1 -1");
        x.ask(0, 1, 0, 0, 0, 0);
        x.ask(0, 1, 0, 0, 0, 0);
        x.pass(1);
        Look.copyDue(x, 0, 0, "none");
        x.rules(0, BY_LANGUAGE, 50, 0, 0);
        x.ask(0, 0, 2, 0, 0, 0);
        x.pass(1);
        Look.copyDue(x, 0, 0, 2, 0, "1 5 1 -1");
        x.rules(0, 0, 50, 0, 0);
        x.ask(0, 0, 0, 0, 0, 0);
        x.pass(1);
        Look.copyDue(x, 0, 0, "1 6 1 -1");
    }

    /**
     * Place 0 knows that the page does not vary. For languages 0 and 1 there are fetches of before a hard purge, which come
     * in 5 and tell that it varies by language now; behind the purge asks 3 and 4, for both, wait for one that comes in 6.
     */
    private static EdgeOrchard twoLanguagesWaitForOne() {
        EdgeOrchard x = new EdgeOrchard();
        x.page(2, 0, 0, 0, 100, 0);
        x.page(1, 0, 0, 0, 0, 0);
        x.place(-1, 2, 3, false);
        x.ask(0, 0, 0, 0, 0, 0);
        x.pass(2);
        x.purge(0, true);
        x.pass(1);
        x.ask(0, 0, 0, 0, 0, 0);
        x.ask(0, 0, 1, 0, 0, 1);
        x.pass(1);
        x.ask(0, 0, 0, 0, 0, 0);
        x.ask(0, 0, 1, 0, 0, 0);
        Check.due("fetches(): two wait for the last", x.fetches(), 4);
        x.rules(0, BY_LANGUAGE, 0, 0, 100);
        x.pass(1);
        Look.copyDue(x, 0, 0, 0, 0, "1 5 1 -1");
        Look.copyDue(x, 0, 0, 1, 0, "1 5 3 -1");
        return x;
    }

    /** "each that waits gets a copy": the first that came first, so that its copy was given the longer ago. */
    private static void inTheirOrderOnErrors() {
        EdgeOrchard x = twoLanguagesWaitForOne();
        x.down(true);
        x.pass(1);
        Look.answerDue(x, 3, "stale 1 5");
        Look.answerDue(x, 4, "stale 1 5");
        x.down(false);
        x.ask(0, 1, 0, 0, 0, 0);
        x.pass(2);
        Look.copyDue(x, 0, 1, "1 8 1 -1");
        Look.copyDue(x, 0, 0, 0, 0, "none");
        Look.copyDue(x, 0, 0, 1, 0, "1 5 3 -1");
    }

    /** "Then all that wait for the fetch get that answer": also if there is a copy for their language meanwhile. */
    private static void thatAnswerNotACopy() {
        EdgeOrchard x = twoLanguagesWaitForOne();
        x.update(0);
        x.pass(1);
        Look.answerDue(x, 3, "fetched 2 6");
        Look.answerDue(x, 4, "fetched 2 6");
        Look.copyDue(x, 0, 0, 0, 0, "2 6 1 -1");
        Look.copyDue(x, 0, 0, 1, 0, "1 5 3 -1");
    }

    /** "A copy has ... the rules that the origin told then": whatever the rules at the origin become, shorter or longer. */
    private static void rulesAsTheyWereTold(int life, int meanwhile, int onErrors) {
        EdgeOrchard x = new EdgeOrchard();
        x.page(2, 0, 4, 3, 9, 0);
        x.place(-1, 1, 40, false);
        x.ask(0, 0, 0, 0, 0, 0);
        x.pass(1);
        x.rules(0, 0, life, meanwhile, onErrors);
        x.down(true);
        String[] due = {"fresh 1 1", "fresh 1 1", "fresh 1 1", "stale 1 1", "stale 1 1", "stale 1 1"};
        for (int k = 0; k < due.length; k++) {
            x.pass(1);
            x.ask(0, 0, 0, 0, 0, 0);
            Look.answerDue(x, k + 1, due[k]);
        }
        // The last fetch for nobody fails in 8, so that there is an error in mind in 8 and 9.
        x.pass(1);
        x.ask(0, 0, 0, 0, 0, 0);
        Look.answerDue(x, 7, "stale 1 1");
        passTo(x, 12);
        x.ask(0, 0, 0, 0, 0, 0);
        Look.answerDue(x, 8, "waiting");
        x.pass(1);
        Look.answerDue(x, 8, "stale 1 1");
        x.pass(1);
        x.ask(0, 0, 0, 0, 0, 0);
        Look.answerDue(x, 9, "failed");
    }

    /** "Changes the rules of a page": of that one alone. */
    private static void rulesOfOnePage() {
        EdgeOrchard x = new EdgeOrchard();
        x.page(1, 0, 5, 0, 0, 0);
        x.page(1, BY_LANGUAGE, 6, 0, 0, 0);
        x.page(1, 2, 7, 0, 0, 0);
        x.place(-1, 1, 40, false);
        Check.due("rules of page 1", x.rules(1, PRIVATE, 1, 1, 1), 1);
        for (int page = 0; page < 3; page++) {
            x.ask(0, page, 0, 0, 0, 0);
        }
        x.pass(1);
        Check.due("varies(0, 0)", x.varies(0, 0), 0);
        Check.due("varies(0, 1)", x.varies(0, 1), 4);
        Check.due("varies(0, 2)", x.varies(0, 2), 2);
        Check.due("rules of page 0", x.rules(0, 0, 0, 0, 0), 0);
        Check.due("rules of page 1 again", x.rules(1, 0, 0, 0, 0), 4);
        Check.due("rules of page 2", x.rules(2, 0, 0, 0, 0), 2);
        x.pass(5);
        x.ask(0, 2, 0, 0, 0, 0);
        Look.answerDue(x, 3, "fresh 1 1");
    }

    /** "the place learns how the page varies": as the answer tells, not as it is at the origin by then. */
    private static void learnsWhatTheAnswerTells() {
        EdgeOrchard x = new EdgeOrchard();
        x.page(1, BY_LANGUAGE, 0, 50, 0, 0);
        x.place(-1, 1, 40, false);
        x.place(0, 1, 40, false);
        x.ask(0, 0, 0, 0, 0, 0);
        x.pass(1);
        x.rules(0, PRIVATE, 0, 50, 0);
        x.ask(1, 0, 0, 0, 0, 0);
        x.ask(1, 0, 0, 0, 0, 0);
        Check.due("fetches(): one for both", x.fetches(), 2);
        x.pass(1);
        // The copy was not private when it was told: both get it, and it is kept.
        Look.answerDue(x, 1, "fetched 1 1");
        Look.answerDue(x, 2, "fetched 1 1");
        Check.due("varies(1, 0)", x.varies(1, 0), BY_LANGUAGE);
        Look.copyDue(x, 1, 0, "1 1 1 -1");
        x.pass(1);
        Check.due("varies(0, 0)", x.varies(0, 0), PRIVATE);
        Check.due("copies(0)", x.copies(0), 0);
        Check.due("copies(1)", x.copies(1), 1);
    }

    /**
     * Place 1 knows the page as private, place 0 knows by now that it is not, and has piece 0 of second 5: fresh to 9. What
     * is for one alone at place 1 is like any other at place 0.
     */
    private static EdgeOrchard privateBelowAlone() {
        EdgeOrchard x = new EdgeOrchard();
        x.page(2, PRIVATE, 5, 0, 0, 0);
        x.place(-1, 2, 40, false);
        x.place(0, 1, 40, false);
        x.ask(1, 0, 0, 0, 0, 0);
        x.pass(3);
        Look.answerDue(x, 0, "fetched 1 3");
        x.rules(0, 0, 5, 0, 0);
        x.ask(0, 0, 0, 0, 0, 0);
        x.pass(2);
        Check.due("varies(0, 0)", x.varies(0, 0), 0);
        Check.due("varies(1, 0)", x.varies(1, 0), PRIVATE);
        Look.copyDue(x, 0, 0, "1 5 1 -1");
        return x;
    }

    /** "A copy that it has ... is given, fresh": to what is for one alone below too. */
    private static void aloneBelowGetsCopies() {
        EdgeOrchard x = privateBelowAlone();
        x.ask(1, 0, 0, 0, 0, 0);
        x.ask(1, 0, 0, 0, 0, 0);
        Check.due("fetches(): each for one alone", x.fetches(), 5);
        x.pass(1);
        Look.answerDue(x, 2, "fetched 1 5");
        Look.answerDue(x, 3, "fetched 1 5");
        Check.due("fetches(): none of place 0", x.fetches(), 5);
        Check.due("varies(1, 0)", x.varies(1, 0), 0);
        Look.copyDue(x, 1, 0, "1 5 1 -1");
    }

    /** "4. ... takes it on": what is for one alone below waits like any other, and any other waits for its fetch. */
    private static void aloneBelowWaitsAsOthersDo() {
        EdgeOrchard x = privateBelowAlone();
        x.ask(1, 0, 0, 0, 1, 1);
        x.ask(1, 0, 0, 0, 1, 1);
        x.pass(1);
        Check.due("fetches(): one of place 0 for both", x.fetches(), 6);
        x.ask(0, 0, 0, 0, 1, 1);
        Check.due("fetches(): it takes on a third", x.fetches(), 6);
        x.down(true);
        x.pass(2);
        for (int ask = 2; ask <= 4; ask++) {
            Look.answerDue(x, ask, "failed");
        }
        // It was not for one alone at place 0, so that the error is in mind there, but not at place 1.
        x.down(false);
        x.ask(0, 0, 0, 0, 1, 1);
        Look.answerDue(x, 5, "failed");
        x.rules(0, 0, 5, 0, 0);
        x.ask(1, 0, 0, 0, 0, 0);
        Look.answerDue(x, 6, "waiting");
    }

    /** What came while the place knew the page as private has come too. */
    private static void comingsOfWhatIsPrivate() {
        EdgeOrchard x = new EdgeOrchard();
        x.page(1, PRIVATE, 50, 0, 0, 0);
        x.place(-1, 1, 40, true);
        x.ask(0, 0, 0, 0, 0, 0);
        x.pass(1);
        Check.due("varies(0, 0)", x.varies(0, 0), PRIVATE);
        x.rules(0, 0, 50, 0, 0);
        x.ask(0, 0, 0, 0, 0, 0);
        x.pass(1);
        Look.copyDue(x, 0, 0, "1 2 1 -1");
    }

    /** "the place has got an error for the page": of a fetch that was not for one alone, though the page is private now. */
    private static void anErrorOfBeforeItWasPrivate() {
        EdgeOrchard x = new EdgeOrchard();
        x.page(1, PRIVATE, 0, 0, 0, 0);
        x.place(-1, 2, 40, false);
        x.ask(0, 0, 0, 0, 0, 0);
        x.pass(1);
        x.ask(0, 0, 1, 0, 0, 0);
        x.pass(1);
        Check.due("varies(0, 0)", x.varies(0, 0), PRIVATE);
        x.ask(0, 0, 0, 0, 0, 0);
        x.rules(0, 0, 0, 0, 0);
        x.down(true);
        x.pass(1);
        Look.answerDue(x, 1, "failed");
        x.down(false);
        x.pass(1);
        Look.answerDue(x, 2, "fetched 1 4");
        Check.due("varies(0, 0) by then", x.varies(0, 0), 0);
        x.ask(0, 0, 0, 0, 0, 0);
        Look.answerDue(x, 3, "failed");
        x.pass(1);
        x.ask(0, 0, 0, 0, 0, 0);
        Look.answerDue(x, 4, "waiting");
    }

    /** "is not soft any more; otherwise it is a new copy": that a copy is soft above does not make it soft below. */
    private static void softAboveNotBelow() {
        EdgeOrchard x = new EdgeOrchard();
        x.page(1, 0, 50, 50, 0, 0);
        x.place(-1, 1, 40, false);
        x.place(0, 1, 40, false);
        x.ask(0, 0, 0, 0, 0, 0);
        x.pass(1);
        x.purge(0, false);
        x.pass(1);
        Look.copyDue(x, 0, 0, "1 1 1 2");
        x.ask(1, 0, 0, 0, 0, 0);
        x.pass(1);
        Look.answerDue(x, 1, "fetched 1 1");
        Look.copyDue(x, 1, 0, "1 1 1 -1");
        x.ask(1, 0, 0, 0, 0, 0);
        Look.answerDue(x, 2, "fresh 1 1");
    }

    public static void main(String[] args) {
        forNobodyOfThePlacesOwnPurge();
        forNobodyInItsLanguageAndKind();
        anErrorBehindWhichAnAnswerComes();
        anErrorBehindWhichAPurgeComes(true);
        anErrorBehindWhichAPurgeComes(false);
        anErrorOfBeforeItWasPrivate();
        onErrorsAsStale();
        givenStaleAloneIsGiven();
        anewIsAlone();
        anewBelowAheadOfTheNext();
        comingsInAnyWay();
        comingsAreCountedOn();
        comingsOfWhatIsPrivate();
        inTheirOrderOnErrors();
        thatAnswerNotACopy();
        rulesAsTheyWereTold(4, 3, 9);
        rulesAsTheyWereTold(0, 0, 0);
        rulesAsTheyWereTold(100, 0, 0);
        rulesAsTheyWereTold(0, 50, 0);
        rulesAsTheyWereTold(0, 0, 200);
        rulesAsTheyWereTold(100, 50, 200);
        softAboveNotBelow();
        rulesOfOnePage();
        learnsWhatTheAnswerTells();
        aloneBelowGetsCopies();
        aloneBelowWaitsAsOthersDo();
        Check.end("SentencesTest");
    }
}
