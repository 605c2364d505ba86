/**
 * Promises 1 to 23: long runs of allowed calls on EdgeOrchard and on PlainOrchard, whose answers have to be the same.
 * The runs are the same each time: they are drawn from numbers that a small recurrence makes.
 */
public final class ModelTest {
    private static final int RUNS = 4000;
    private static final int CALLS = 512;

    private final StringBuilder told = new StringBuilder();
    private final EdgeOrchard x = new EdgeOrchard();
    private final PlainOrchard model = new PlainOrchard();
    private final int run;
    private long state;
    private int pageCount;
    private int placeCount;
    private int askCount;
    private int purgeCount;
    private int calls;
    private int wrong;

    // What a run is like: drawn once for it.
    private final int maxPages;
    private final int maxPlaces;
    private final int longestLife;
    private final int longestPass;
    private final int askShare;
    private final int trouble;
    private final int varying;

    private ModelTest(int run) {
        this.run = run;
        state = run * 7919L + 17;
        maxPages = 1 + drawn(run % 5 == 0 ? 12 : 3);
        maxPlaces = 1 + drawn(6);
        longestLife = new int[] {3, 12, 40, 100}[drawn(4)];
        longestPass = new int[] {1, 2, 5, 30}[drawn(4)];
        askShare = 20 + drawn(60);
        trouble = drawn(4) == 0 ? 0 : 1 + drawn(20);
        varying = drawn(3);
    }

    private int drawn(int below) {
        state = state * 6364136223846793005L + 1442695040888963407L;
        return (int) ((state >>> 33) % below);
    }

    private boolean isDrawn(int percent) {
        return drawn(100) < percent;
    }

    private void due(String call, long got, long want) {
        calls++;
        told.append(call).append(" -> ").append(got).append('\n');
        if (got != want) {
            wrong++;
            Check.due("run " + run + ":\n" + told + call, got, want);
        }
    }

    private static long number(boolean answer) {
        return answer ? 1 : 0;
    }

    private boolean isLeft() {
        return calls < CALLS && wrong == 0;
    }

    private int drawnVaries() {
        return varying == 0 ? 0 : varying == 1 ? drawn(4) : isDrawn(60) ? drawn(4) : drawn(8);
    }

    private void makePage() {
        int pieces = 1 + drawn(8);
        int varies = drawnVaries();
        int life = drawn(longestLife + 1);
        int meanwhile = drawn(Math.min(50, longestLife) + 1);
        int onErrors = drawn(2) * drawn(Math.min(200, 2 * longestLife) + 1);
        int marks = drawn(16);
        due("page(" + pieces + ", " + varies + ", " + life + ", " + meanwhile + ", " + onErrors + ", " + marks + ")",
                x.page(pieces, varies, life, meanwhile, onErrors, marks),
                model.page(pieces, varies, life, meanwhile, onErrors, marks));
        pageCount++;
    }

    private void makePlace() {
        int parent = isDrawn(70) ? placeCount - 1 : drawn(placeCount + 1) - 1;
        int delay = 1 + drawn(isDrawn(60) ? 2 : 9);
        int room = 1 + drawn(isDrawn(50) ? 8 : 40);
        boolean isTwice = isDrawn(25);
        due("place(" + parent + ", " + delay + ", " + room + ", " + isTwice + ")",
                x.place(parent, delay, room, isTwice), model.place(parent, delay, room, isTwice));
        placeCount++;
    }

    private void makeAsk() {
        int page = drawn(pageCount);
        int place = isDrawn(50) ? placeCount - 1 : drawn(placeCount);
        int pieces = model.pages.get(page).pieces;
        int first = drawn(pieces);
        int last = first + drawn(pieces - first);
        int language = isDrawn(60) ? 0 : drawn(3);
        int kind = isDrawn(60) ? 0 : drawn(2);
        due("ask(" + place + ", " + page + ", " + language + ", " + kind + ", " + first + ", " + last + ")",
                x.ask(place, page, language, kind, first, last), model.ask(place, page, language, kind, first, last));
        askCount++;
    }

    private void change() {
        int page = drawn(pageCount);
        if (isDrawn(60)) {
            due("update(" + page + ")", x.update(page), model.update(page));
            return;
        }
        int varies = drawnVaries();
        int life = drawn(longestLife + 1);
        int meanwhile = drawn(Math.min(50, longestLife) + 1);
        int onErrors = drawn(Math.min(200, 2 * longestLife) + 1);
        due("rules(" + page + ", " + varies + ", " + life + ", " + meanwhile + ", " + onErrors + ")",
                x.rules(page, varies, life, meanwhile, onErrors), model.rules(page, varies, life, meanwhile, onErrors));
    }

    private void makePurge() {
        boolean isHard = isDrawn(50);
        if (isDrawn(60)) {
            int page = drawn(pageCount);
            due("purge(" + page + ", " + isHard + ")", x.purge(page, isHard), model.purge(page, isHard));
        } else {
            int mark = drawn(4);
            due("purgeMark(" + mark + ", " + isHard + ")", x.purgeMark(mark, isHard), model.purgeMark(mark, isHard));
        }
        purgeCount++;
    }

    private void makeTrouble() {
        if (isDrawn(50)) {
            boolean isDown = isDrawn(25);
            due("down(" + isDown + ")", number(x.down(isDown)), number(model.down(isDown)));
        } else {
            int place = drawn(placeCount);
            boolean isCut = isDrawn(25);
            due("cut(" + place + ", " + isCut + ")", number(x.cut(place, isCut)), number(model.cut(place, isCut)));
        }
    }

    private void pass() {
        int seconds = 1 + drawn(longestPass);
        due("pass(" + seconds + ")", x.pass(seconds), model.pass(seconds));
    }

    private void lookAtPlace() {
        int place = drawn(placeCount);
        int page = drawn(pageCount);
        switch (drawn(6)) {
            case 0 -> due("copies(" + place + ")", x.copies(place), model.copies(place));
            case 1 -> due("held(" + place + ")", x.held(place), model.held(place));
            case 2 -> due("varies(" + place + ", " + page + ")", x.varies(place, page), model.varies(place, page));
            case 3 -> due("served(" + place + ")", x.served(place), model.places.get(place).served);
            case 4 -> due("fetched(" + place + ")", x.fetched(place), model.places.get(place).fetched);
            default -> due("onWay(" + place + ")", x.onWay(place), model.onWay(place));
        }
    }

    private void lookAtCopy() {
        int place = drawn(placeCount);
        int page = drawn(pageCount);
        int language = drawn(3);
        int kind = drawn(2);
        int what = drawn(4);
        due("copy(" + place + ", " + page + ", " + language + ", " + kind + ", " + what + ")",
                x.copy(place, page, language, kind, what), model.copy(place, page, language, kind, what));
    }

    private void look() {
        int kind = drawn(10);
        if (kind < 3) {
            lookAtPlace();
        } else if (kind < 6) {
            lookAtCopy();
        } else if (kind < 8 && askCount > 0) {
            int ask = Math.max(0, askCount - 1 - drawn(12));
            int what = drawn(4);
            due("answer(" + ask + ", " + what + ")", x.answer(ask, what), model.answer(ask, what));
        } else if (purgeCount > 0 && isDrawn(50)) {
            int purge = drawn(purgeCount);
            due("isDone(" + purge + ")", number(x.isDone(purge)), number(model.isDone(purge)));
        } else if (isDrawn(50)) {
            due("fetches()", x.fetches(), model.fetches.size());
        } else {
            due("origin()", x.origin(), model.origin);
        }
    }

    /** At the end: whatever the calls that are left can ask of all that. */
    private void lookAtAll() {
        for (int ask = 0; ask < askCount && isLeft(); ask++) {
            due("answer(" + ask + ", 0)", x.answer(ask, 0), model.answer(ask, 0));
        }
        while (isLeft()) {
            look();
        }
    }

    private void step() {
        int draw = drawn(100);
        if (draw < 3 && pageCount < maxPages) {
            makePage();
        } else if (draw < 6 && placeCount < maxPlaces) {
            makePlace();
        } else if (draw < 10 && purgeCount < 30) {
            makePurge();
        } else if (draw < 14) {
            change();
        } else if (isDrawn(trouble)) {
            makeTrouble();
        } else if (isDrawn(askShare) && askCount < 200) {
            makeAsk();
        } else if (isDrawn(60) && model.second < 4900) {
            pass();
        } else {
            look();
        }
    }

    private void play() {
        makePage();
        makePlace();
        if (isDrawn(70)) {
            while (placeCount < maxPlaces) {
                makePlace();
            }
        }
        int lastStep = CALLS - drawn(220);
        while (calls < lastStep && isLeft()) {
            step();
        }
        lookAtAll();
    }

    public static void main(String[] args) {
        int failed = 0;
        int most = 0;
        int[] asks = new int[3];
        int[] hows = new int[3];
        for (int run = 0; run < RUNS && failed < 3; run++) {
            ModelTest test = new ModelTest(run);
            test.play();
            failed += test.wrong;
            most += test.model.fetches.size() == 400 ? 1 : 0;
            for (PlainOrchard.Wanted ask : test.model.asks) {
                asks[ask.tells[0]]++;
                if (ask.tells[0] == EdgeOrchard.ANSWERED) {
                    hows[ask.tells[2]]++;
                }
            }
        }
        // The runs have to reach what they are for: all that can become of asks, and the limit of fetches.
        for (int k = 0; k < 3; k++) {
            Check.due("there were asks that are " + k, asks[k] > 1000, true);
            Check.due("there were answers got as " + k, hows[k] > 1000, true);
        }
        Check.due("there were runs with 400 fetches", most > 10, true);
        System.out.println("asks waiting, answered, failed: " + asks[0] + ", " + asks[1] + ", " + asks[2]
                + "; fresh, stale, fetched: " + hows[0] + ", " + hows[1] + ", " + hows[2] + "; full runs: " + most);
        Check.end("ModelTest");
    }
}
