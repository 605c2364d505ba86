/** Promises 8 ask, 13 answer, 16 copy: which calls throw what, that those change nothing, and what answers tell. */
public final class AsksTest {
    private static final Class<IndexOutOfBoundsException> NO_SUCH = IndexOutOfBoundsException.class;
    private static final Class<IllegalArgumentException> WRONG = IllegalArgumentException.class;
    private static final Class<IllegalStateException> FULL = IllegalStateException.class;
    private static final int FAR = Integer.MAX_VALUE;
    private static final int LOW = Integer.MIN_VALUE;

    /** Two places, two pages (of 3 pieces and of 8), a copy that is stale, an ask that waits and one that failed. */
    private static EdgeOrchard busy() {
        EdgeOrchard x = new EdgeOrchard();
        x.page(3, 0, 3, 9, 0, 1);
        x.page(8, 3, 9, 0, 0, 2);
        x.place(-1, 1, 9, false);
        x.place(0, 2, 9, true);
        x.ask(0, 0, 0, 0, 0, 2);
        x.pass(1);
        x.purge(0, false);
        x.purge(1, true);
        x.pass(1);
        x.down(true);
        x.ask(0, 1, 2, 1, 5, 7);
        x.pass(1);
        x.ask(1, 1, 2, 1, 5, 7);
        return x;
    }

    private static void wrongAsksThrowTheFirst() {
        EdgeOrchard x = busy();
        String was = Look.all(x, 2, 2, 3, 2);
        int[][] noSuch = {
            {-1, 0, 0, 0, 0, 0}, {2, 0, 0, 0, 0, 0}, {FAR, 0, 0, 0, 0, 0}, {LOW, 0, 0, 0, 0, 0}, {0, -1, 0, 0, 0, 0},
            {0, 2, 0, 0, 0, 0}, {0, FAR, 0, 0, 0, 0}, {0, 0, -1, 0, 0, 0}, {0, 0, 3, 0, 0, 0}, {0, 0, 0, -1, 0, 0},
            {0, 0, 0, 2, 0, 0}, {0, 0, 0, 0, -1, 0}, {0, 0, 0, 0, 3, 3}, {0, 0, 0, 0, 0, 3}, {0, 0, 0, 0, 0, -1},
            {0, 1, 0, 0, 8, 8}, {0, 1, 0, 0, 0, 8}, {0, 0, 0, 0, FAR, FAR}, {0, 0, 0, 0, 0, LOW}, {0, 0, 0, 0, LOW, FAR},
            {0, 0, 0, 0, 3, 2}, {0, 0, 0, 0, 2, -1}, {2, 0, 0, 0, 1, 0}, {0, 0, 3, 0, 1, 0}};
        for (int[] w : noSuch) {
            Check.throwsDue("ask" + java.util.Arrays.toString(w), NO_SUCH, () -> x.ask(w[0], w[1], w[2], w[3], w[4], w[5]));
        }
        Check.throwsDue("ask of pieces 1 to 0", WRONG, () -> x.ask(0, 0, 0, 0, 1, 0));
        Check.throwsDue("ask of pieces 7 to 0", WRONG, () -> x.ask(1, 1, 2, 1, 7, 0));
        Check.same("all behind asks that threw", Look.all(x, 2, 2, 3, 2), was);
        Check.due("the next ask", x.ask(0, 0, 0, 0, 2, 2), 3);
    }

    private static void wrongQuestionsThrowTheFirst() {
        EdgeOrchard x = busy();
        String was = Look.all(x, 2, 2, 3, 2);
        for (int ask : new int[] {-1, 3, FAR, LOW}) {
            Check.throwsDue("answer(" + ask + ", 0)", NO_SUCH, () -> x.answer(ask, 0));
            Check.throwsDue("answer(" + ask + ", 4)", NO_SUCH, () -> x.answer(ask, 4));
        }
        for (int what : new int[] {-1, 4, FAR, LOW}) {
            Check.throwsDue("answer(0, " + what + ")", WRONG, () -> x.answer(0, what));
            Check.throwsDue("answer(2, " + what + ")", WRONG, () -> x.answer(2, what));
            Check.throwsDue("copy(0, 0, 0, 0, " + what + ")", WRONG, () -> x.copy(0, 0, 0, 0, what));
            Check.throwsDue("copy(1, 1, 2, 1, " + what + ")", WRONG, () -> x.copy(1, 1, 2, 1, what));
        }
        int[][] noSuch = {{-1, 0, 0, 0}, {2, 0, 0, 0}, {0, -1, 0, 0}, {0, 2, 0, 0}, {0, 0, -1, 0}, {0, 0, 3, 0},
            {0, 0, 0, -1}, {0, 0, 0, 2}, {FAR, 0, 0, 0}, {0, LOW, 0, 0}, {0, 0, FAR, 0}, {0, 0, 0, LOW}};
        for (int[] w : noSuch) {
            String call = "copy" + java.util.Arrays.toString(w);
            Check.throwsDue(call + " 0", NO_SUCH, () -> x.copy(w[0], w[1], w[2], w[3], 0));
            Check.throwsDue(call + " 4", NO_SUCH, () -> x.copy(w[0], w[1], w[2], w[3], 4));
        }
        Check.same("all behind questions that threw", Look.all(x, 2, 2, 3, 2), was);
    }

    private static void otherWrongCallsChangeNothing() {
        EdgeOrchard x = busy();
        String was = Look.all(x, 2, 2, 3, 2);
        Check.throwsDue("page", WRONG, () -> x.page(9, 0, 0, 0, 0, 0));
        Check.throwsDue("update", NO_SUCH, () -> x.update(2));
        Check.throwsDue("rules, no such", NO_SUCH, () -> x.rules(2, 0, 0, 0, 0));
        Check.throwsDue("rules, wrong", WRONG, () -> x.rules(0, 4, 0, 0, 201));
        Check.throwsDue("place, no such", NO_SUCH, () -> x.place(2, 1, 1, false));
        Check.throwsDue("place, wrong", WRONG, () -> x.place(0, 1, 0, false));
        Check.throwsDue("cut", NO_SUCH, () -> x.cut(2, true) ? 1 : 0);
        Check.throwsDue("purge", NO_SUCH, () -> x.purge(2, true));
        Check.throwsDue("purgeMark", NO_SUCH, () -> x.purgeMark(4, true));
        Check.throwsDue("pass(0)", WRONG, () -> x.pass(0));
        Check.throwsDue("pass(101)", WRONG, () -> x.pass(101));
        Check.throwsDue("isDone(2)", NO_SUCH, () -> x.isDone(2) ? 1 : 0);
        Check.same("all behind other calls that threw", Look.all(x, 2, 2, 3, 2), was);
        Check.due("rules behind ones that threw", x.rules(0, 0, 3, 9, 0), 0);
        Check.due("update behind ones that threw", x.update(0), 2);
        Check.due("purge behind ones that threw", x.purge(0, true), 2);
    }

    private static void twoHundredAsks() {
        EdgeOrchard x = new EdgeOrchard();
        x.page(2, 0, 100, 0, 0, 0);
        x.place(-1, 1, 9, false);
        x.ask(0, 0, 0, 0, 0, 1);
        x.pass(1);
        for (int k = 1; k < 200; k++) {
            Check.due("ask " + k, x.ask(0, 0, 2, 1, 0, 1), k);
        }
        Look.answerDue(x, 199, "fresh 1 1");
        Check.due("served(0)", x.served(0), 400);
        Check.throwsDue("the 201st ask", FULL, () -> x.ask(0, 0, 0, 0, 0, 0));
        Check.throwsDue("a wrong 201st ask", WRONG, () -> x.ask(0, 0, 0, 0, 1, 0));
        Check.throwsDue("a 201st ask at no place", NO_SUCH, () -> x.ask(1, 0, 0, 0, 1, 0));
        Check.throwsDue("answer(200, 0)", NO_SUCH, () -> x.answer(200, 0));
        Check.due("served(0) behind that", x.served(0), 400);
    }

    private static void whatAnswersTell() {
        EdgeOrchard x = new EdgeOrchard();
        x.page(2, 0, 4, 3, 9, 0);
        x.place(-1, 2, 9, false);
        x.pass(5);
        x.update(0);
        x.ask(0, 0, 0, 0, 0, 1);
        Look.answerDue(x, 0, "waiting");
        x.pass(1);
        Look.answerDue(x, 0, "waiting");
        x.pass(1);
        Look.answerDue(x, 0, "fetched 2 7");
        x.pass(3);
        x.update(0);
        x.ask(0, 0, 0, 0, 1, 1);
        Look.answerDue(x, 1, "fresh 2 7");
        x.pass(1);
        x.ask(0, 0, 0, 0, 1, 1);
        Look.answerDue(x, 2, "stale 2 7");
        Look.answerDue(x, 1, "fresh 2 7");
        x.down(true);
        x.pass(2);
        x.ask(0, 0, 0, 0, 0, 0);
        Look.answerDue(x, 3, "stale 2 7");
        x.pass(3);
        x.ask(0, 0, 0, 0, 0, 0);
        Look.answerDue(x, 4, "stale 2 7");
        x.pass(5);
        x.ask(0, 0, 0, 0, 0, 0);
        x.pass(2);
        Look.answerDue(x, 5, "failed");
    }

    public static void main(String[] args) {
        wrongAsksThrowTheFirst();
        wrongQuestionsThrowTheFirst();
        otherWrongCallsChangeNothing();
        twoHundredAsks();
        whatAnswersTell();
        Check.end("AsksTest");
    }
}
