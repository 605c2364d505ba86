/** Any arguments in any state: a call answers, or throws, by a throw of its own, one of the exceptions of the document. */
public final class WildTest {
    private static final int RUNS = 300;
    private static final int CALLS = 512;
    private static final int[] EDGES = {-1, 0, 1, 2, 3, 4, 7, 8, 11, 12, 40, 100, 101, 200, 5000,
        Integer.MAX_VALUE, Integer.MIN_VALUE};

    private long state;

    private WildTest(int run) {
        state = run * 104729L + 3;
    }

    private int drawn(int below) {
        state = state * 6364136223846793005L + 1442695040888963407L;
        return (int) ((state >>> 33) % below);
    }

    /** Most often a small number, so that calls come through too. */
    private int wild() {
        return drawn(100) < 88 ? drawn(3) : EDGES[drawn(EDGES.length)];
    }

    private boolean isDrawn() {
        return drawn(2) == 0;
    }

    private long call(EdgeOrchard x, int which) {
        switch (which) {
            case 0: return x.page(wild(), wild(), wild(), wild(), wild(), wild());
            case 1: return x.update(wild());
            case 2: return x.rules(wild(), wild(), wild(), wild(), wild());
            case 3: return x.down(isDrawn()) ? 1 : 0;
            case 4: return x.place(wild() - 1, wild(), wild(), isDrawn());
            case 5: return x.cut(wild(), isDrawn()) ? 1 : 0;
            case 6: return x.purge(wild(), isDrawn());
            case 7: return x.purgeMark(wild(), isDrawn());
            case 8: return x.pass(wild());
            case 9: return x.answer(wild(), wild());
            case 10: return x.copies(wild());
            case 11: return x.held(wild());
            case 12: return x.copy(wild(), wild(), wild(), wild(), wild());
            case 13: return x.varies(wild(), wild());
            case 14: return x.served(wild());
            case 15: return x.fetched(wild());
            case 16: return x.onWay(wild());
            case 17: return x.isDone(wild()) ? 1 : 0;
            case 18: return x.second() + x.fetches() + x.origin();
            default: return x.ask(wild(), wild(), wild(), wild(), wild(), wild());
        }
    }

    private void play() {
        EdgeOrchard x = new EdgeOrchard();
        for (int k = 0; k < CALLS; k++) {
            int which = k < 8 ? (k % 2) * 4 : drawn(26);
            try {
                call(x, which);
            } catch (RuntimeException thrown) {
                Class<?> type = thrown.getClass();
                boolean isNamed = type == IndexOutOfBoundsException.class || type == IllegalArgumentException.class
                        || type == IllegalStateException.class;
                Check.due("call " + which + " threw " + thrown + ", as named", isNamed, true);
                String from = thrown.getStackTrace()[0].getClassName();
                Check.due("call " + which + " threw by its own throw, in " + from, from.equals("EdgeOrchard"), true);
            }
        }
    }

    public static void main(String[] args) {
        for (int run = 0; run < RUNS; run++) {
            new WildTest(run).play();
        }
        Check.end("WildTest");
    }
}
