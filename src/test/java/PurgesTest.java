/** Promises 9 purge, 10 purgeMark, 23 isDone: how purges come to places, and what they do there. */
public final class PurgesTest {
    private static final Class<IndexOutOfBoundsException> NO_SUCH = IndexOutOfBoundsException.class;
    private static final Class<IllegalStateException> FULL = IllegalStateException.class;
    private static final int FAR = Integer.MAX_VALUE;
    private static final int LOW = Integer.MIN_VALUE;

    /** A page of life 50, meanwhile 10, on errors 100; a place with this delay, and a copy of piece 0 there. */
    private static EdgeOrchard withCopy(int delay) {
        EdgeOrchard x = new EdgeOrchard();
        x.page(2, 0, 50, 10, 100, 1);
        x.place(-1, delay, 40, false);
        x.ask(0, 0, 0, 0, 0, 0);
        x.pass(delay);
        return x;
    }

    private static void numbersAndLimits() {
        EdgeOrchard x = withCopy(1);
        int[] noPage = {-1, 1, 12, 32, FAR, LOW};
        for (int page : noPage) {
            Check.throwsDue("purge(" + page + ", true)", NO_SUCH, () -> x.purge(page, true));
        }
        int[] noMark = {-1, 4, 32, FAR, LOW};
        for (int mark : noMark) {
            Check.throwsDue("purgeMark(" + mark + ", false)", NO_SUCH, () -> x.purgeMark(mark, false));
        }
        for (int k = 0; k < 30; k++) {
            Check.due("purge " + k, k % 2 == 0 ? x.purge(0, false) : x.purgeMark(3, true), k);
        }
        Check.throwsDue("a 31st purge", FULL, () -> x.purge(0, true));
        Check.throwsDue("a 31st purge of a mark", FULL, () -> x.purgeMark(0, true));
        Check.throwsDue("a 31st purge of no page", NO_SUCH, () -> x.purge(1, true));
        Check.throwsDue("a 31st purge of no mark", NO_SUCH, () -> x.purgeMark(4, true));
        for (int purge : new int[] {-1, 30, FAR, LOW}) {
            Check.throwsDue("isDone(" + purge + ")", NO_SUCH, () -> x.isDone(purge) ? 1 : 0);
        }
        Check.due("isDone(29)", x.isDone(29), false);
        x.pass(1);
        Check.due("isDone(29) later", x.isDone(29), true);
        Look.copyDue(x, 0, 0, "1 1 1 2");
    }

    private static void hardOnes() {
        EdgeOrchard x = withCopy(3);
        x.purge(0, true);
        x.pass(2);
        Look.copyDue(x, 0, 0, "1 3 1 -1");
        Check.due("isDone(0) on the way", x.isDone(0), false);
        x.ask(0, 0, 0, 0, 0, 0);
        Look.answerDue(x, 1, "fresh 1 3");
        x.pass(1);
        Look.copyDue(x, 0, 0, "none");
        Check.due("isDone(0)", x.isDone(0), true);
        Check.due("copies(0)", x.copies(0), 0);
        Check.due("held(0)", x.held(0), 0);
        Check.due("varies(0, 0): what it knows stays", x.varies(0, 0), 0);
        // A copy that was told later than the purge stays when it comes.
        x.purge(0, true);
        x.ask(0, 0, 0, 0, 0, 1);
        x.pass(1);
        x.purge(0, true);
        x.pass(2);
        Look.copyDue(x, 0, 0, "1 9 3 -1");
        Check.due("isDone(1)", x.isDone(1), true);
        x.pass(1);
        Look.copyDue(x, 0, 0, "1 9 3 -1");
        Check.due("isDone(2)", x.isDone(2), true);
    }

    /** Not above its second means told in it, too. */
    private static void toldInTheSameSecond() {
        EdgeOrchard x = withCopy(2);
        x.purge(0, false);
        x.purge(0, true);
        x.ask(0, 0, 0, 0, 1, 1);
        x.pass(1);
        x.purge(0, true);
        x.pass(1);
        // In second 4 purges 0 and 1, of second 2, come first, then the fetch.
        Look.copyDue(x, 0, 0, "1 4 2 -1");
        x.pass(1);
        Look.copyDue(x, 0, 0, "1 4 2 -1");
        x.purge(0, true);
        x.ask(0, 0, 0, 0, 0, 1);
        x.pass(2);
        Look.copyDue(x, 0, 0, "1 7 3 -1");
        x.purge(0, true);
        x.pass(2);
        Look.copyDue(x, 0, 0, "none");
    }

    private static void softOnes() {
        EdgeOrchard x = withCopy(2);
        x.purge(0, false);
        x.pass(1);
        Look.copyDue(x, 0, 0, "1 2 1 -1");
        x.purge(0, false);
        x.pass(1);
        Look.copyDue(x, 0, 0, "1 2 1 4");
        x.pass(1);
        Look.copyDue(x, 0, 0, "1 2 1 4");
        Check.due("isDone(1)", x.isDone(1), true);
        x.down(true);
        x.ask(0, 0, 0, 0, 0, 0);
        Look.answerDue(x, 1, "stale 1 2");
        x.pass(8);
        x.ask(0, 0, 0, 0, 0, 0);
        Look.answerDue(x, 2, "stale 1 2");
        Check.due("fetches() for what is soft", x.fetches(), 3);
        x.pass(1);
        // In 14 it may be stale no more, though its life is 50; on errors it may be, whatever it is since when.
        x.pass(3);
        x.ask(0, 0, 0, 0, 0, 0);
        Look.answerDue(x, 3, "waiting");
        x.pass(2);
        Look.answerDue(x, 3, "stale 1 2");
        Look.copyDue(x, 0, 0, "1 2 1 4");
        x.down(false);
        x.pass(2);
        x.ask(0, 0, 0, 0, 1, 1);
        x.pass(2);
        Look.copyDue(x, 0, 0, "1 23 3 -1");
        x.ask(0, 0, 0, 0, 0, 0);
        Look.answerDue(x, 5, "fresh 1 23");
    }

    /** Soft since 4, meanwhile 10: stale up to second 13. */
    private static void theEdgeOfSoftOnes() {
        for (int second = 13; second <= 14; second++) {
            EdgeOrchard x = withCopy(2);
            x.purge(0, false);
            x.pass(second - 2);
            x.ask(0, 0, 0, 0, 0, 0);
            Look.answerDue(x, 1, second == 13 ? "stale 1 2" : "waiting");
        }
    }

    /** Of the copies of a page those that are told later are not soft. */
    private static void softOnlyWhatIsOlder() {
        EdgeOrchard x = new EdgeOrchard();
        x.page(1, EdgeOrchard.BY_LANGUAGE, 50, 10, 0, 0);
        x.place(-1, 3, 40, false);
        x.ask(0, 0, 0, 0, 0, 0);
        x.pass(1);
        x.ask(0, 0, 1, 0, 0, 0);
        x.pass(2);
        x.purge(0, false);
        x.pass(3);
        Look.copyDue(x, 0, 0, 0, 0, "1 3 1 6");
        Look.copyDue(x, 0, 0, 1, 0, "1 4 1 -1");
    }

    private static void marks() {
        EdgeOrchard x = new EdgeOrchard();
        for (int marks : new int[] {0, 1, 8, 9, 15, 6}) {
            x.page(1, 0, 50, 0, 0, marks);
        }
        x.place(-1, 1, 40, false);
        for (int page = 0; page < 6; page++) {
            x.ask(0, page, 0, 0, 0, 0);
        }
        x.pass(1);
        x.purgeMark(3, false);
        x.pass(1);
        String[] soft = {"-1", "-1", "2", "2", "2", "-1"};
        for (int page = 0; page < 6; page++) {
            Look.copyDue(x, 0, page, "1 1 1 " + soft[page]);
        }
        x.purgeMark(0, true);
        x.pass(1);
        String[] there = {"1 1 1 -1", "none", "1 1 1 2", "none", "none", "1 1 1 -1"};
        for (int page = 0; page < 6; page++) {
            Look.copyDue(x, 0, page, there[page]);
        }
        x.purge(2, true);
        x.pass(1);
        Check.due("copies(0) behind purge(2)", x.copies(0), 2);
        x.purgeMark(1, true);
        x.purgeMark(2, true);
        x.pass(1);
        Check.due("copies(0) behind marks 1 and 2", x.copies(0), 1);
        Check.due("isDone(4)", x.isDone(4), true);
    }

    /** A page made later with the mark is none of those that have it then. */
    private static void marksThen() {
        EdgeOrchard x = new EdgeOrchard();
        x.place(-1, 9, 40, false);
        x.place(0, 1, 40, false);
        x.page(1, 0, 50, 0, 0, 4);
        x.purgeMark(2, true);
        x.page(1, 0, 50, 0, 0, 4);
        x.ask(1, 0, 0, 0, 0, 0);
        x.ask(1, 1, 0, 0, 0, 0);
        x.pass(1);
        Check.due("fetches() of both places", x.fetches(), 4);
        // The purge has come to place 1: for page 0 alone the fetch on the way is not for what is late enough.
        x.ask(1, 0, 0, 0, 0, 0);
        Check.due("fetches() for page 0", x.fetches(), 5);
        x.ask(1, 1, 0, 0, 0, 0);
        Check.due("fetches() for page 1", x.fetches(), 5);
    }

    /** It comes to each place as late as that place's own delay tells, whatever the tiers are. */
    private static void eachPlaceByItsDelay() {
        EdgeOrchard x = new EdgeOrchard();
        x.page(1, 0, 100, 0, 0, 0);
        x.place(-1, 2, 40, false);
        x.place(0, 1, 40, false);
        x.place(1, 5, 40, false);
        x.ask(2, 0, 0, 0, 0, 0);
        x.pass(8);
        x.purge(0, true);
        String[] there = {"111", "101", "001", "001", "001", "000"};
        for (int k = 0; k < 6; k++) {
            String got = "" + x.copies(0) + x.copies(1) + x.copies(2);
            Check.same("copies of the three places, " + k + " seconds behind", got, there[k]);
            Check.due("isDone(0)", x.isDone(0), k == 5);
            if (k < 5) {
                x.pass(1);
            }
        }
    }

    private static void waitsForPlacesThatAreCutOff() {
        EdgeOrchard x = withCopy(2);
        x.cut(0, true);
        x.purge(0, true);
        x.purge(0, false);
        x.pass(5);
        Look.copyDue(x, 0, 0, "1 2 1 -1");
        Check.due("isDone(0) while cut off", x.isDone(0), false);
        x.cut(0, false);
        Look.copyDue(x, 0, 0, "1 2 1 -1");
        x.cut(0, true);
        x.pass(1);
        Check.due("isDone(0): cut off again", x.isDone(0), false);
        x.cut(0, false);
        x.pass(1);
        Check.due("isDone(0) in the first second", x.isDone(0), true);
        Look.copyDue(x, 0, 0, "none");
        // Cut off only meanwhile: it comes when it is due.
        EdgeOrchard y = withCopy(3);
        y.purge(0, false);
        y.cut(0, true);
        y.pass(2);
        y.cut(0, false);
        Check.due("isDone(0) ahead of its second", y.isDone(0), false);
        y.pass(1);
        Look.copyDue(y, 0, 0, "1 3 1 6");
        y.purge(0, false);
        y.cut(0, true);
        y.pass(1);
        y.cut(0, false);
        y.pass(1);
        Check.due("isDone(1): not late enough", y.isDone(1), false);
    }

    /** Purges that waited come at once, by rising numbers: the soft one is since the second in which it comes. */
    private static void softOnesThatWaited() {
        EdgeOrchard x = withCopy(1);
        x.cut(0, true);
        x.purge(0, false);
        x.pass(7);
        x.cut(0, false);
        x.pass(2);
        Look.copyDue(x, 0, 0, "1 1 1 9");
    }

    private static void placesMadeLater() {
        EdgeOrchard x = new EdgeOrchard();
        x.page(1, 0, 50, 0, 0, 0);
        x.pass(1);
        x.purge(0, true);
        Check.due("isDone(0) without places", x.isDone(0), true);
        x.place(-1, 3, 40, false);
        Check.due("isDone(0) with one to come to", x.isDone(0), false);
        x.pass(2);
        Check.due("isDone(0), not late enough", x.isDone(0), false);
        x.pass(1);
        Check.due("isDone(0), late enough", x.isDone(0), true);
        x.pass(6);
        x.place(0, 2, 40, false);
        Check.due("isDone(0) with a later one", x.isDone(0), false);
        x.cut(1, true);
        x.pass(1);
        Check.due("isDone(0) with a later one cut off", x.isDone(0), false);
        x.cut(1, false);
        x.pass(1);
        Check.due("isDone(0) at last", x.isDone(0), true);
    }

    /** A refill that was fetched ahead of the purge, and is not told later than that, is given but not kept. */
    private static void purgesOutrunRefills() {
        EdgeOrchard x = new EdgeOrchard();
        x.page(1, 0, 100, 0, 0, 0);
        x.place(-1, 9, 40, false);
        x.place(0, 2, 40, false);
        x.ask(0, 0, 0, 0, 0, 0);
        x.pass(9);
        x.update(0);
        x.purge(0, true);
        x.pass(1);
        x.ask(1, 0, 0, 0, 0, 0);
        x.pass(2);
        // The purge came to place 1 in 11; the fetch got the copy that place 0 has till 18 in 12.
        Look.answerDue(x, 1, "fetched 1 9");
        Look.copyDue(x, 1, 0, "none");
        Check.due("fetched(1)", x.fetched(1), 1);
        Check.due("served(1)", x.served(1), 1);
        Check.due("varies(1, 0)", x.varies(1, 0), 0);
        x.ask(1, 0, 0, 0, 0, 0);
        x.pass(2);
        Look.answerDue(x, 2, "waiting");
        Check.due("onWay(0): its copy is not told late enough", x.onWay(0), 1);
        x.ask(0, 0, 0, 0, 0, 0);
        Look.answerDue(x, 3, "fresh 1 9");
        x.pass(9);
        Look.answerDue(x, 2, "fetched 2 23");
        Look.copyDue(x, 0, 0, "2 23 1 -1");
        Look.copyDue(x, 1, 0, "2 23 1 -1");
    }

    /** A fetch is for the second of who it is for, or of the place, if that is more: so it passes on upwards. */
    private static void secondsGoUpwards() {
        EdgeOrchard x = new EdgeOrchard();
        x.page(1, 0, 100, 0, 50, 0);
        x.place(-1, 1, 40, false);
        x.place(0, 5, 40, false);
        x.place(1, 1, 40, false);
        x.ask(1, 0, 0, 0, 0, 0);
        x.pass(6);
        Look.copyDue(x, 1, 0, "1 6 1 -1");
        x.cut(0, true);
        x.cut(1, true);
        x.purge(0, true);
        x.pass(1);
        x.cut(1, false);
        x.ask(2, 0, 0, 0, 0, 0);
        // Place 2 knows of the purge, place 1 does not till 11, nor place 0: both are to tell what is above 6.
        x.pass(1);
        Look.answerDue(x, 1, "waiting");
        Check.due("onWay(1)", x.onWay(1), 1);
        x.pass(5);
        Check.due("onWay(0)", x.onWay(0), 1);
        Look.answerDue(x, 1, "waiting");
        x.pass(1);
        // Place 0 is cut off, and what it has is too old for what was asked: that is an error down to the reader.
        Look.answerDue(x, 1, "failed");
        Look.copyDue(x, 0, 0, "1 6 1 -1");
    }

    /** For nobody, a fetch is for the second of the place alone: so it takes on no fetch that needs more. */
    private static void forNobodyOnlyOfThePlace() {
        EdgeOrchard x = new EdgeOrchard();
        x.page(1, 0, 1, 50, 0, 0);
        x.place(-1, 9, 40, false);
        x.place(0, 1, 40, false);
        x.ask(0, 0, 0, 0, 0, 0);
        x.pass(9);
        x.purge(0, true);
        x.pass(1);
        x.ask(0, 0, 0, 0, 0, 0);
        Look.answerDue(x, 1, "stale 1 9");
        x.ask(1, 0, 0, 0, 0, 0);
        Check.due("onWay(0) for nobody", x.onWay(0), 1);
        x.pass(1);
        Check.due("onWay(0) for what is above 9", x.onWay(0), 2);
        x.pass(8);
        Look.answerDue(x, 2, "waiting");
        Look.copyDue(x, 0, 0, "1 19 1 -1");
        x.pass(1);
        Look.answerDue(x, 2, "fetched 1 20");
    }

    public static void main(String[] args) {
        numbersAndLimits();
        hardOnes();
        toldInTheSameSecond();
        softOnes();
        theEdgeOfSoftOnes();
        softOnlyWhatIsOlder();
        marks();
        marksThen();
        eachPlaceByItsDelay();
        waitsForPlacesThatAreCutOff();
        softOnesThatWaited();
        placesMadeLater();
        purgesOutrunRefills();
        secondsGoUpwards();
        forNobodyOnlyOfThePlace();
        Check.end("PurgesTest");
    }
}
