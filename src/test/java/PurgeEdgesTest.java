/** The edges of "Purges": the second in which one comes, what is not above its second, since when a copy is soft, marks. */
public final class PurgeEdgesTest {
    private static void passTo(EdgeOrchard x, int second) {
        while (x.second() < second) {
            x.pass(1);
        }
    }

    /** A page of life 100, meanwhile 50; a place with this delay, and a copy that was told in the second of the delay. */
    private static EdgeOrchard withCopy(int delay) {
        EdgeOrchard x = new EdgeOrchard();
        x.page(2, 0, 100, 50, 100, 0);
        x.place(-1, delay, 40, false);
        x.ask(0, 0, 0, 0, 0, 0);
        x.pass(delay);
        return x;
    }

    /** "It comes to a place as many seconds later as its delay tells": not a second earlier. */
    private static void asManySecondsLater(int delay, boolean isHard) {
        EdgeOrchard x = withCopy(delay);
        x.purge(0, isHard);
        passTo(x, 2 * delay - 1);
        Look.copyDue(x, 0, 0, "1 " + delay + " 1 -1");
        Check.due("isDone one second ahead of the delay " + delay, x.isDone(0), false);
        x.pass(1);
        Look.copyDue(x, 0, 0, isHard ? "none" : "1 " + delay + " 1 " + 2 * delay);
        Check.due("isDone behind the delay " + delay, x.isDone(0), true);
        x.pass(1);
        Look.copyDue(x, 0, 0, isHard ? "none" : "1 " + delay + " 1 " + 2 * delay);
    }

    /** "if it is cut off then, in the first second that passes in which it is not": told in 2, it would come in 4. */
    private static void cutOffThen(int from, int to) {
        EdgeOrchard x = withCopy(2);
        x.purge(0, false);
        int comes = from <= 4 && to >= 4 ? to + 1 : 4;
        for (int second = 3; second <= 9; second++) {
            x.cut(0, second >= from && second <= to);
            x.pass(1);
            Check.due("cut off from " + from + " to " + to + ", isDone in " + second, x.isDone(0), second >= comes);
        }
        Look.copyDue(x, 0, 0, "1 2 1 " + comes);
    }

    /** "or made later, in the first second that passes in which it is there, and that is late enough": told in 3. */
    private static void madeLater(int madeIn, int delay) {
        EdgeOrchard x = new EdgeOrchard();
        x.page(1, 0, 100, 0, 0, 0);
        x.place(-1, 1, 40, false);
        passTo(x, 3);
        x.purge(0, true);
        passTo(x, madeIn);
        x.place(-1, delay, 40, false);
        int comes = Math.max(3 + delay, madeIn + 1);
        Check.due("isDone as soon as there is one more place", x.isDone(0), false);
        x.ask(1, 0, 0, 0, 0, 0);
        for (int second = madeIn + 1; second <= madeIn + 14; second++) {
            x.pass(1);
            Check.due("made in " + madeIn + " with the delay " + delay + ", isDone in " + second, x.isDone(0),
                    second >= Math.max(4, comes));
        }
    }

    /** When it comes to a place made later, it does there what it does anywhere: what was asked for earlier is too old. */
    private static void madeLaterKnowsOfIt() {
        EdgeOrchard x = new EdgeOrchard();
        x.page(1, 0, 100, 0, 0, 0);
        x.page(1, 0, 100, 0, 0, 0);
        x.pass(3);
        x.purge(0, true);
        x.pass(20);
        x.place(-1, 9, 40, false);
        x.ask(0, 0, 0, 0, 0, 0);
        x.ask(0, 1, 0, 0, 0, 0);
        x.pass(1);
        x.ask(0, 0, 0, 0, 0, 0);
        Check.due("fetches() behind the purge", x.fetches(), 3);
        x.ask(0, 1, 0, 0, 0, 0);
        Check.due("fetches() of another page", x.fetches(), 3);
    }

    /** "all copies of the page whose times are not above its second are gone", or soft: a copy that was told in 9. */
    private static void timesNotAbove(int told, boolean isHard) {
        EdgeOrchard x = new EdgeOrchard();
        x.page(1, 0, 100, 50, 0, 0);
        x.place(-1, 9, 40, false);
        x.ask(0, 0, 0, 0, 0, 0);
        passTo(x, told);
        x.purge(0, isHard);
        passTo(x, told + 8);
        Look.copyDue(x, 0, 0, "1 9 1 -1");
        x.pass(1);
        Look.copyDue(x, 0, 0, told < 9 ? "1 9 1 -1" : isHard ? "none" : "1 9 1 " + (told + 9));
        Check.due("copies(0), told in " + told, x.copies(0), told < 9 || !isHard ? 1 : 0);
    }

    /** "are soft since the second in which it comes, if they were not": a later one does not change since when. */
    private static void softSinceTheFirst() {
        EdgeOrchard x = withCopy(1);
        passTo(x, 4);
        x.purge(0, false);
        x.purge(0, false);
        x.pass(1);
        Look.copyDue(x, 0, 0, "1 1 1 5");
        x.purge(0, false);
        x.pass(1);
        Look.copyDue(x, 0, 0, "1 1 1 5");
        // Told anew, it is not soft any more; a purge told in the same second makes it soft again, since another one.
        x.ask(0, 0, 0, 0, 1, 1);
        x.pass(1);
        Look.copyDue(x, 0, 0, "1 7 3 -1");
        x.purge(0, false);
        x.pass(1);
        Look.copyDue(x, 0, 0, "1 7 3 8");
    }

    /** Purges that come together, by rising numbers: whatever their order, hard ones take what is old. */
    private static void softAndHardTogether(boolean isHardFirst) {
        EdgeOrchard x = withCopy(3);
        x.purge(0, isHardFirst);
        x.purge(0, !isHardFirst);
        x.pass(2);
        Look.copyDue(x, 0, 0, "1 3 1 -1");
        x.pass(1);
        Look.copyDue(x, 0, 0, "none");
        Check.due("isDone(0)", x.isDone(0), true);
        Check.due("isDone(1)", x.isDone(1), true);
    }

    /** A soft one leaves what is on the way as it is: it still takes on who comes, and is kept, not soft. */
    private static void softOnesLetFetchesBe() {
        EdgeOrchard x = new EdgeOrchard();
        x.page(1, 0, 100, 50, 0, 0);
        x.place(-1, 9, 40, false);
        x.place(0, 2, 40, false);
        x.ask(0, 0, 0, 0, 0, 0);
        x.pass(9);
        x.purge(0, false);
        x.pass(1);
        x.ask(1, 0, 0, 0, 0, 0);
        x.pass(1);
        x.ask(1, 0, 0, 0, 0, 0);
        Check.due("onWay(1) behind a soft purge", x.onWay(1), 1);
        x.pass(1);
        Look.answerDue(x, 2, "fetched 1 9");
        Look.copyDue(x, 1, 0, "1 9 1 -1");
        // It comes to each place once: on the way to the other one still, it does not come to this one again.
        x.pass(5);
        Look.copyDue(x, 1, 0, "1 9 1 -1");
        Look.copyDue(x, 0, 0, "1 9 1 -1");
        Check.due("isDone(0) in 17", x.isDone(0), false);
        x.pass(1);
        Look.copyDue(x, 1, 0, "1 9 1 -1");
        Look.copyDue(x, 0, 0, "1 9 1 18");
        Check.due("isDone(0) in 18", x.isDone(0), true);
    }

    /** Errors that are in mind when a hard one comes do not matter to it: what is told later than the purge is kept. */
    private static void errorsDoNotMatter() {
        EdgeOrchard x = new EdgeOrchard();
        x.page(1, 0, 100, 0, 0, 0);
        x.place(-1, 6, 40, false);
        x.place(0, 2, 40, false);
        x.purge(0, true);
        x.ask(0, 0, 0, 0, 0, 0);
        x.cut(1, true);
        x.pass(5);
        x.ask(1, 0, 0, 0, 0, 0);
        x.pass(2);
        // In 7 place 1 has an error; the copy above was told in 6, behind the purge of 0, which comes to place 1 in 8.
        Look.answerDue(x, 1, "failed");
        x.cut(1, false);
        x.pass(2);
        x.ask(1, 0, 0, 0, 0, 0);
        x.pass(2);
        Look.answerDue(x, 2, "fetched 1 6");
        Look.copyDue(x, 1, 0, "1 6 1 -1");
    }

    /** "of all pages that have a mark then": the mark k is the bit k, for each set of marks. */
    private static void marks(int mark, int firstMarks) {
        EdgeOrchard x = new EdgeOrchard();
        x.place(-1, 1, 40, false);
        for (int k = 0; k < 8; k++) {
            x.page(1, 0, 50, 50, 0, firstMarks + k);
            x.ask(0, k, 0, 0, 0, 0);
        }
        x.pass(1);
        Check.due("purgeMark(" + mark + ", true)", x.purgeMark(mark, true), 0);
        x.pass(1);
        for (int k = 0; k < 8; k++) {
            int marks = firstMarks + k;
            boolean isMarked = marks / new int[] {1, 2, 4, 8}[mark] % 2 == 1;
            Check.same("mark " + mark + " of the marks " + marks, Look.copy(x, 0, k, 0, 0), isMarked ? "none" : "1 1 1 -1");
        }
    }

    /** A mark that no page has, and one for which there are no pages: a purge all the same, with its number. */
    private static void marksOfNoPage() {
        EdgeOrchard x = new EdgeOrchard();
        Check.due("purgeMark(3, true) without pages", x.purgeMark(3, true), 0);
        Check.due("isDone(0) without places", x.isDone(0), true);
        x.page(1, 0, 50, 0, 0, 7);
        x.place(-1, 1, 40, false);
        Check.due("isDone(0) with a place", x.isDone(0), false);
        Check.due("purgeMark(3, true) that no page has", x.purgeMark(3, true), 1);
        x.ask(0, 0, 0, 0, 0, 0);
        x.pass(1);
        Look.copyDue(x, 0, 0, "1 1 1 -1");
        Check.due("isDone(0)", x.isDone(0), true);
        Check.due("isDone(1)", x.isDone(1), true);
    }

    /** "it is done, when it has come to all places that there are": six of them, the last one second later each. */
    private static void doneAtTheLastPlace(int places) {
        EdgeOrchard x = new EdgeOrchard();
        x.page(1, 0, 50, 0, 0, 0);
        for (int k = 0; k < places; k++) {
            x.place(-1, 9 - k, 40, false);
        }
        x.purge(0, true);
        Check.due("isDone at once, of " + places, x.isDone(0), places == 0);
        x.pass(8);
        Check.due("isDone in 8, of " + places, x.isDone(0), places == 0);
        x.pass(1);
        Check.due("isDone in 9, of " + places, x.isDone(0), true);
    }

    public static void main(String[] args) {
        for (int delay = 1; delay <= 9; delay++) {
            asManySecondsLater(delay, true);
            asManySecondsLater(delay, false);
        }
        for (int from = 3; from <= 6; from++) {
            for (int to = from; to <= 7; to++) {
                cutOffThen(from, to);
            }
        }
        for (int madeIn = 3; madeIn <= 8; madeIn++) {
            for (int delay = 1; delay <= 4; delay++) {
                madeLater(madeIn, delay);
            }
        }
        madeLaterKnowsOfIt();
        for (int told = 7; told <= 11; told++) {
            timesNotAbove(told, true);
            timesNotAbove(told, false);
        }
        softSinceTheFirst();
        softAndHardTogether(true);
        softAndHardTogether(false);
        softOnesLetFetchesBe();
        errorsDoNotMatter();
        for (int mark = 0; mark < 4; mark++) {
            marks(mark, 0);
            marks(mark, 8);
        }
        marksOfNoPage();
        for (int places = 0; places <= 6; places++) {
            doneAtTheLastPlace(places);
        }
        Check.end("PurgeEdgesTest");
    }
}
