/** Copies of pages near their readers, at places in tiers that ask one another and at last the origin. */
public final class EdgeOrchard {
    public static final int NONE = -1;
    public static final int BY_LANGUAGE = 1, BY_KIND = 2, PRIVATE = 4;
    public static final int WAITING = 0, ANSWERED = 1, FAILED = 2;
    public static final int FRESH = 0, STALE = 1, FETCHED = 2;

    private static final int MAX_PAGES = 12, MAX_PLACES = 6, MAX_ASKS = 200, MAX_FETCHES = 400, MAX_PURGES = 30;
    private static final int LAST_SECOND = 5000, MAX_PIECES = 8, LANGUAGES = 3, KINDS = 2, MARKS = 4;
    private static final int KEYS = LANGUAGES * KINDS;
    private static final int MAX_WAITING = 4;
    /** How many seconds an error is kept in mind: that in which it came, and the next. */
    private static final int ERROR_SECONDS = 2;
    /** Answers go down from place to place, so six levels are the most that there can be. */
    private static final int DEEPEST = 16;

    private final Page[] pages;
    private final Place[] places;
    private final Ask[] asks;
    private final Fetch[] fetchRow;
    private final Purge[] purges;
    private int pageCount;
    private int placeCount;
    private int askCount;
    private int fetchCount;
    private int purgeCount;
    /** All fetches below this number have come: a second that passes need not look at them. */
    private int firstToCome;
    private int now;
    private boolean isOriginDown;
    private int originAnswers;
    /** Counts givings and keepings, so that the copy unused the longest can be told within a second too. */
    private int uses;

    public EdgeOrchard() {
        pages = new Page[MAX_PAGES];
        places = new Place[MAX_PLACES];
        asks = new Ask[MAX_ASKS];
        fetchRow = new Fetch[MAX_FETCHES];
        purges = new Purge[MAX_PURGES];
    }

    // ---- the origin, places

    public int page(int pieces, int varies, int life, int meanwhile, int onErrors, int marks)
            throws IllegalArgumentException, IllegalStateException {
        if (!isWithin(pieces, 1, MAX_PIECES) || !isWithin(marks, 0, (1 << MARKS) - 1)
                || !areRules(varies, life, meanwhile, onErrors)) {
            throw new IllegalArgumentException("an argument is out of range");
        }
        int number = pageCount;
        if (!isIndex(number, pages.length)) {
            throw new IllegalStateException("there are 12 pages");
        }
        pages[number] = new Page(pieces, marks, new Rules(varies, life, meanwhile, onErrors));
        pageCount = number + 1;
        return number;
    }

    public int update(int page) throws IndexOutOfBoundsException {
        Page changed = pageNumbered(page);
        changed.version++;
        return changed.version;
    }

    public int rules(int page, int varies, int life, int meanwhile, int onErrors)
            throws IndexOutOfBoundsException, IllegalArgumentException {
        Page changed = pageNumbered(page);
        if (!areRules(varies, life, meanwhile, onErrors)) {
            throw new IllegalArgumentException("an argument is out of range");
        }
        int varied = changed.rules.varies;
        changed.rules = new Rules(varies, life, meanwhile, onErrors);
        return varied;
    }

    public boolean down(boolean isDown) {
        boolean wasDown = isOriginDown;
        isOriginDown = isDown;
        return wasDown;
    }

    public int place(int parent, int delay, int room, boolean isTwice)
            throws IndexOutOfBoundsException, IllegalArgumentException, IllegalStateException {
        Place asked = parent == NONE ? null : placeNumbered(parent);
        if (!isWithin(delay, 1, 9) || !isWithin(room, 1, 40)) {
            throw new IllegalArgumentException("delay or room is out of range");
        }
        int number = placeCount;
        if (!isIndex(number, places.length)) {
            throw new IllegalStateException("there are 6 places");
        }
        Place made = new Place(delay, room, isTwice);
        made.makeShelves(asked);
        places[number] = made;
        placeCount = number + 1;
        return number;
    }

    public boolean cut(int place, boolean isCut) throws IndexOutOfBoundsException {
        Place changed = placeNumbered(place);
        boolean wasCut = changed.isCut;
        changed.isCut = isCut;
        return wasCut;
    }

    // ---- asks, purges, seconds

    public int ask(int place, int page, int language, int kind, int first, int last)
            throws IndexOutOfBoundsException, IllegalArgumentException, IllegalStateException {
        Shelf shelf = shelfNumbered(place, page);
        Page asked = pageNumbered(page);
        requireKey(language, kind);
        if (!isIndex(first, asked.pieces) || !isIndex(last, asked.pieces)) {
            throw new IndexOutOfBoundsException("no such piece");
        }
        if (last < first) {
            throw new IllegalArgumentException("last is below first");
        }
        int number = askCount;
        if (!isIndex(number, asks.length)) {
            throw new IllegalStateException("there are 200 asks");
        }
        int pieces = ((1 << (last - first + 1)) - 1) << first;
        Ask made = new Ask(asked, language, kind, pieces);
        asks[number] = made;
        askCount = number + 1;
        come(shelf, made, 0);
        return number;
    }

    public int purge(int page, boolean isHard) throws IndexOutOfBoundsException, IllegalStateException {
        pageNumbered(page);
        return tellPurge(1 << page, isHard);
    }

    public int purgeMark(int mark, boolean isHard) throws IndexOutOfBoundsException, IllegalStateException {
        if (!isIndex(mark, MARKS)) {
            throw new IndexOutOfBoundsException("no such mark");
        }
        int marked = 0;
        for (int i = 0; i < pageCount && i < pages.length; i++) {
            Page page = pages[i];
            if (page != null && (page.marks >> mark & 1) != 0) {
                marked |= 1 << i;
            }
        }
        return tellPurge(marked, isHard);
    }

    public int pass(int seconds) throws IllegalArgumentException, IllegalStateException {
        if (!isWithin(seconds, 1, 100)) {
            throw new IllegalArgumentException("seconds are out of range");
        }
        if (now + seconds > LAST_SECOND) {
            throw new IllegalStateException("the second would be above 5000");
        }
        for (int i = 0; i < seconds; i++) {
            now++;
            bringPurges();
            bringFetches();
        }
        return now;
    }

    // ---- what is asked of all that

    public int second() {
        return now;
    }

    public int answer(int ask, int what) throws IndexOutOfBoundsException, IllegalArgumentException {
        Ask told = isIndex(ask, askCount) && ask < asks.length ? asks[ask] : null;
        if (told == null) {
            throw new IndexOutOfBoundsException("no such ask");
        }
        if (!isWithin(what, 0, 3)) {
            throw new IllegalArgumentException("what is out of range");
        }
        switch (what) {
            case 0: return told.state;
            case 1: return told.version;
            case 2: return told.how;
            default: return told.time;
        }
    }

    public int copies(int place) throws IndexOutOfBoundsException {
        return placeNumbered(place).countCopies();
    }

    public int held(int place) throws IndexOutOfBoundsException {
        return placeNumbered(place).countPieces();
    }

    public int copy(int place, int page, int language, int kind, int what)
            throws IndexOutOfBoundsException, IllegalArgumentException {
        Shelf shelf = shelfNumbered(place, page);
        requireKey(language, kind);
        if (!isWithin(what, 0, 3)) {
            throw new IllegalArgumentException("what is out of range");
        }
        Copy had = shelf.copyFor(language, kind);
        if (had == null) {
            return NONE;
        }
        switch (what) {
            case 0: return had.told.version;
            case 1: return had.told.time;
            case 2: return had.pieces;
            default: return had.softSince;
        }
    }

    public int varies(int place, int page) throws IndexOutOfBoundsException {
        return shelfNumbered(place, page).known;
    }

    public int served(int place) throws IndexOutOfBoundsException {
        return placeNumbered(place).served;
    }

    public int fetched(int place) throws IndexOutOfBoundsException {
        return placeNumbered(place).fetched;
    }

    public int fetches() {
        return fetchCount;
    }

    public int onWay(int place) throws IndexOutOfBoundsException {
        return placeNumbered(place).open;
    }

    public int origin() {
        return originAnswers;
    }

    public boolean isDone(int purge) throws IndexOutOfBoundsException {
        Purge told = isIndex(purge, purgeCount) && purge < purges.length ? purges[purge] : null;
        if (told == null) {
            throw new IndexOutOfBoundsException("no such purge");
        }
        return isEverywhere(told);
    }

    // ---- arguments

    private static boolean isIndex(int number, int count) {
        return number >= 0 && number < count;
    }

    private static boolean isWithin(int value, int least, int most) {
        return value >= least && value <= most;
    }

    private static boolean areRules(int varies, int life, int meanwhile, int onErrors) {
        return isWithin(varies, 0, BY_LANGUAGE | BY_KIND | PRIVATE) && isWithin(life, 0, 100)
                && isWithin(meanwhile, 0, 50) && isWithin(onErrors, 0, 200);
    }

    private static void requireKey(int language, int kind) {
        if (!isIndex(language, LANGUAGES) || !isIndex(kind, KINDS)) {
            throw new IndexOutOfBoundsException("no such language or kind");
        }
    }

    private Page pageNumbered(int number) {
        Page page = isIndex(number, pageCount) && number < pages.length ? pages[number] : null;
        if (page == null) {
            throw new IndexOutOfBoundsException("no such page");
        }
        return page;
    }

    private Place placeNumbered(int number) {
        Place place = isIndex(number, placeCount) && number < places.length ? places[number] : null;
        if (place == null) {
            throw new IndexOutOfBoundsException("no such place");
        }
        return place;
    }

    private Shelf shelfNumbered(int place, int page) {
        Place at = placeNumbered(place);
        pageNumbered(page);
        Shelf shelf = at.shelfOf(page);
        if (shelf == null) {
            throw new IndexOutOfBoundsException("no such page");
        }
        return shelf;
    }

    // ---- what comes to a place

    /** An ask, or a fetch from below, comes to the place whose shelf this is, for the first time or anew. */
    private void come(Shelf shelf, Wish wish, int depth) {
        if (depth > DEEPEST) {
            return;
        }
        shelf.comings++;
        if (shelf.known != NONE && (shelf.known & PRIVATE) != 0) {
            fetchFor(shelf, wish, true, depth);
            return;
        }
        Copy copy = shelf.copyEnoughFor(wish);
        if (copy != null && copy.isFresh(now)) {
            giveCopy(shelf, wish, copy, FRESH, depth);
        } else if (copy != null && copy.mayBeStaleMeanwhile(now)) {
            giveCopy(shelf, wish, copy, STALE, depth);
            fetchForNobody(shelf, wish);
        } else if (now - shelf.errorSecond < ERROR_SECONDS) {
            giveOnError(shelf, wish, depth);
        } else {
            waitOrFetch(shelf, wish, depth);
        }
    }

    private void waitOrFetch(Shelf shelf, Wish wish, int depth) {
        Fetch lowest = lowestThatTakes(shelf, wish);
        if (lowest != null && lowest.waitingCount < MAX_WAITING) {
            lowest.takeOn(wish);
        } else {
            fetchFor(shelf, wish, false, depth);
        }
    }

    /** The lowest fetch of the place that could take this on, however many wait for it, or null. */
    private Fetch lowestThatTakes(Shelf shelf, Wish wish) {
        int need = wish.needAt(shelf);
        for (int i = 0; i < fetchCount && i < fetchRow.length; i++) {
            Fetch fetch = fetchRow[i];
            if (fetch != null && fetch.shelf == shelf && fetch.isOpen && !fetch.isAlone && fetch.above >= need
                    && wish.isAllIn(fetch.pieces) && shelf.isSameKey(fetch, wish)) {
                return fetch;
            }
        }
        return null;
    }

    private void fetchFor(Shelf shelf, Wish wish, boolean isAlone, int depth) {
        Fetch made = makeFetch(shelf, wish, Math.max(wish.needAt(shelf), shelf.hardSecond), isAlone);
        if (made == null) {
            giveOnError(shelf, wish, depth);
        } else {
            made.takeOn(wish);
        }
    }

    private void fetchForNobody(Shelf shelf, Wish wish) {
        if (lowestThatTakes(shelf, wish) == null) {
            makeFetch(shelf, wish, shelf.hardSecond, false);
        }
    }

    /** Makes a fetch for which nobody waits yet; null if there are too many. */
    private Fetch makeFetch(Shelf shelf, Wish wish, int above, boolean isAlone) {
        int number = fetchCount;
        if (!isIndex(number, fetchRow.length)) {
            return null;
        }
        Fetch made = new Fetch(shelf, wish, above, isAlone, now + shelf.place.delay);
        fetchRow[number] = made;
        fetchCount = number + 1;
        shelf.place.open++;
        return made;
    }

    // ---- what a place gives

    private void giveCopy(Shelf shelf, Wish wish, Copy copy, int how, int depth) {
        uses++;
        copy.lastUse = uses;
        give(shelf, wish, copy.told, how, depth);
    }

    private void give(Shelf shelf, Wish wish, Told told, int how, int depth) {
        shelf.place.served += Integer.bitCount(wish.pieces);
        if (wish instanceof Ask ask) {
            ask.get(told, how);
        } else if (wish instanceof Fetch fetch) {
            takeAnswer(fetch, told, depth + 1);
        }
    }

    /** Does what is done for one that waits when there is an error: a copy that is good enough for that, or none. */
    private void giveOnError(Shelf shelf, Wish wish, int depth) {
        Copy copy = shelf.copyEnoughFor(wish);
        if (copy != null && copy.mayBeStaleOnErrors(now)) {
            giveCopy(shelf, wish, copy, STALE, depth);
        } else if (wish instanceof Ask ask) {
            ask.state = FAILED;
        } else if (wish instanceof Fetch fetch) {
            takeError(fetch, depth + 1);
        }
    }

    // ---- what a fetch gets

    private void takeAnswer(Fetch fetch, Told told, int depth) {
        if (depth > DEEPEST) {
            return;
        }
        Shelf shelf = fetch.shelf;
        fetch.close();
        shelf.learn(told.rules.varies);
        Copy had = shelf.copyFor(fetch.language, fetch.kind);
        if (had == null || had.told.version != told.version || !fetch.isAllIn(had.pieces)) {
            shelf.place.fetched += Integer.bitCount(fetch.pieces);
        }
        if (shelf.isKept(told, had)) {
            keep(fetch, told, had);
        }
        for (int i = 0; i < fetch.waitingCount && i < fetch.waiting.length; i++) {
            Wish wish = fetch.waiting[i];
            if (wish == null) {
                continue;
            }
            if (i > 0 && told.rules.isPrivate()) {
                come(shelf, wish, depth);
            } else {
                give(shelf, wish, told, FETCHED, depth);
            }
        }
    }

    private void takeError(Fetch fetch, int depth) {
        if (depth > DEEPEST) {
            return;
        }
        Shelf shelf = fetch.shelf;
        fetch.close();
        if (!fetch.isAlone) {
            shelf.errorSecond = now;
        }
        for (int i = 0; i < fetch.waitingCount && i < fetch.waiting.length; i++) {
            Wish wish = fetch.waiting[i];
            if (wish != null) {
                giveOnError(shelf, wish, depth);
            }
        }
    }

    private void keep(Fetch fetch, Told told, Copy had) {
        Shelf shelf = fetch.shelf;
        Copy kept = had;
        if (kept == null || kept.told.version != told.version) {
            kept = new Copy(shelf.slotFor(fetch.language, fetch.kind), told);
            shelf.place.put(kept);
        }
        uses++;
        kept.refresh(told, fetch.pieces, uses);
        shelf.place.makeRoomFor(kept);
    }

    // ---- a second

    private void bringPurges() {
        for (int i = 0; i < purgeCount && i < purges.length; i++) {
            Purge purge = purges[i];
            if (purge == null || isEverywhere(purge)) {
                continue;
            }
            for (int k = 0; k < placeCount && k < places.length; k++) {
                Place place = places[k];
                if (place != null && !purge.hasComeTo(k) && !place.isCut && now >= purge.second + place.delay) {
                    purge.setComeTo(k);
                    place.takePurge(purge, now);
                }
            }
        }
    }

    /** Places made later count too: a purge that was done is not while it has not come to a new one. */
    private boolean isEverywhere(Purge purge) {
        for (int k = 0; k < placeCount; k++) {
            if (!purge.hasComeTo(k)) {
                return false;
            }
        }
        return true;
    }

    private int tellPurge(int pageSet, boolean isHard) {
        int number = purgeCount;
        if (!isIndex(number, purges.length)) {
            throw new IllegalStateException("there are 30 purges");
        }
        purges[number] = new Purge(pageSet, isHard, now);
        purgeCount = number + 1;
        return number;
    }

    private void bringFetches() {
        int made = fetchCount;
        boolean haveAllCome = true;
        for (int i = firstToCome; i < made && i >= 0 && i < fetchRow.length; i++) {
            Fetch fetch = fetchRow[i];
            if (fetch != null && fetch.comesAt == now) {
                bringFetch(fetch);
            }
            haveAllCome = haveAllCome && (fetch == null || fetch.comesAt <= now);
            if (haveAllCome) {
                firstToCome = i + 1;
            }
        }
    }

    private void bringFetch(Fetch fetch) {
        Shelf parent = fetch.shelf.parent;
        if (fetch.shelf.place.isCut) {
            takeError(fetch, 0);
        } else if (parent != null) {
            come(parent, fetch, 0);
        } else if (isOriginDown) {
            takeError(fetch, 0);
        } else {
            originAnswers++;
            takeAnswer(fetch, new Told(fetch.page.version, now, fetch.page.rules), 0);
        }
    }

    /** The rules of a page, as they were at one time: a change at the origin makes new ones. */
    private static final class Rules {
        final int varies;
        final int life;
        final int meanwhile;
        final int onErrors;

        Rules(int varies, int life, int meanwhile, int onErrors) {
            this.varies = varies;
            this.life = life;
            this.meanwhile = meanwhile;
            this.onErrors = onErrors;
        }

        boolean isPrivate() {
            return (varies & PRIVATE) != 0;
        }
    }

    /** What the origin told in one second. It is never changed, so copies and answers may share it. */
    private static final class Told {
        final int version;
        final int time;
        final Rules rules;

        Told(int version, int time, Rules rules) {
            this.version = version;
            this.time = time;
            this.rules = rules;
        }
    }

    /** A page at the origin. */
    private static final class Page {
        final int pieces;
        final int marks;
        int version = 1;
        Rules rules;

        Page(int pieces, int marks, Rules rules) {
            this.pieces = pieces;
            this.marks = marks;
            this.rules = rules;
        }
    }

    private static final class Copy {
        final int slot;
        Told told;
        int pieces;
        int softSince = NONE;
        int lastUse;

        Copy(int slot, Told told) {
            this.slot = slot;
            this.told = told;
        }

        void refresh(Told newlyTold, int newPieces, int use) {
            told = newlyTold;
            pieces |= newPieces;
            softSince = NONE;
            lastUse = use;
        }

        boolean isFresh(int now) {
            return softSince == NONE && now < told.time + told.rules.life;
        }

        boolean mayBeStaleMeanwhile(int now) {
            int since = softSince == NONE ? told.time + told.rules.life : softSince;
            return now < since + told.rules.meanwhile;
        }

        boolean mayBeStaleOnErrors(int now) {
            return now < told.time + told.rules.life + told.rules.onErrors;
        }
    }

    /** What one place knows of one page. */
    private static final class Shelf {
        final Place place;
        /** The shelf for the same page at the place above, or null below the origin. */
        final Shelf parent;
        final int firstSlot;
        int known = NONE;
        int hardSecond = NONE;
        int errorSecond = -ERROR_SECONDS;
        int comings;

        Shelf(Place place, Shelf parent, int firstSlot) {
            this.place = place;
            this.parent = parent;
            this.firstSlot = firstSlot;
        }

        boolean mayVaryBy(int what) {
            return known == NONE || (known & what) != 0;
        }

        boolean isSameKey(Wish one, Wish other) {
            return (one.language == other.language || !mayVaryBy(BY_LANGUAGE))
                    && (one.kind == other.kind || !mayVaryBy(BY_KIND));
        }

        int slotFor(int language, int kind) {
            int byLanguage = mayVaryBy(BY_LANGUAGE) ? language : 0;
            int byKind = mayVaryBy(BY_KIND) ? kind : 0;
            return firstSlot + byLanguage * KINDS + byKind;
        }

        Copy copyFor(int language, int kind) {
            return place.copyIn(slotFor(language, kind));
        }

        /** The copy for what is wished, if its time is enough and it has all pieces; otherwise null. */
        Copy copyEnoughFor(Wish wish) {
            Copy had = copyFor(wish.language, wish.kind);
            if (had == null || had.told.time <= wish.needAt(this) || !wish.isAllIn(had.pieces)) {
                return null;
            }
            return had;
        }

        void learn(int varies) {
            if (known != varies) {
                known = varies;
                for (int slot = firstSlot; slot < firstSlot + KEYS; slot++) {
                    place.drop(slot);
                }
            }
        }

        boolean isKept(Told told, Copy had) {
            boolean isAdmitted = !place.isTwice || had != null || comings >= 2;
            return isAdmitted && !told.rules.isPrivate() && told.time > hardSecond;
        }

        void takePurge(Purge purge, int now) {
            if (purge.isHard) {
                hardSecond = Math.max(hardSecond, purge.second);
            }
            for (int slot = firstSlot; slot < firstSlot + KEYS; slot++) {
                Copy copy = place.copyIn(slot);
                if (copy == null || copy.told.time > purge.second) {
                    continue;
                }
                if (purge.isHard) {
                    place.drop(slot);
                } else if (copy.softSince == NONE) {
                    copy.softSince = now;
                }
            }
        }
    }

    private static final class Place {
        final int delay;
        final int room;
        final boolean isTwice;
        final Shelf[] shelves;
        /** The copies of all pages, so that room can be made over them all: KEYS slots for each page. */
        final Copy[] slots;
        boolean isCut;
        int served;
        int fetched;
        int open;

        Place(int delay, int room, boolean isTwice) {
            this.delay = delay;
            this.room = room;
            this.isTwice = isTwice;
            shelves = new Shelf[MAX_PAGES];
            slots = new Copy[MAX_PAGES * KEYS];
        }

        /** Shelves know their place, so the constructor, which may not hand it out, cannot make them. */
        void makeShelves(Place above) {
            for (int i = 0; i < shelves.length; i++) {
                shelves[i] = new Shelf(this, above == null ? null : above.shelfOf(i), i * KEYS);
            }
        }

        Shelf shelfOf(int page) {
            return isIndex(page, shelves.length) ? shelves[page] : null;
        }

        Copy copyIn(int slot) {
            return isIndex(slot, slots.length) ? slots[slot] : null;
        }

        void put(Copy copy) {
            if (isIndex(copy.slot, slots.length)) {
                slots[copy.slot] = copy;
            }
        }

        void drop(int slot) {
            if (isIndex(slot, slots.length)) {
                slots[slot] = null;
            }
        }

        int countCopies() {
            int count = 0;
            for (Copy copy : slots) {
                count += copy == null ? 0 : 1;
            }
            return count;
        }

        int countPieces() {
            int count = 0;
            for (Copy copy : slots) {
                count += copy == null ? 0 : Integer.bitCount(copy.pieces);
            }
            return count;
        }

        void makeRoomFor(Copy kept) {
            for (int gone = 0; gone < slots.length && countPieces() > room; gone++) {
                Copy oldest = longestUnusedBut(kept);
                drop(oldest == null ? kept.slot : oldest.slot);
            }
        }

        private Copy longestUnusedBut(Copy kept) {
            Copy oldest = null;
            for (Copy copy : slots) {
                if (copy != null && copy != kept && (oldest == null || copy.lastUse < oldest.lastUse)) {
                    oldest = copy;
                }
            }
            return oldest;
        }

        void takePurge(Purge purge, int now) {
            for (int i = 0; i < shelves.length; i++) {
                Shelf shelf = shelves[i];
                if (shelf != null && purge.isOf(i)) {
                    shelf.takePurge(purge, now);
                }
            }
        }
    }

    /** Who wants pieces of a page from a place: a reader, or a place below. */
    private abstract static class Wish {
        final Page page;
        final int language;
        final int kind;
        final int pieces;

        Wish(Page page, int language, int kind, int pieces) {
            this.page = page;
            this.language = language;
            this.kind = kind;
            this.pieces = pieces;
        }

        boolean isAllIn(int somePieces) {
            return (pieces & ~somePieces) == 0;
        }

        /** The second that the time of an answer has to be above, at the place to which this has come. */
        abstract int needAt(Shelf shelf);
    }

    private static final class Ask extends Wish {
        int state = WAITING;
        int version = NONE;
        int how = NONE;
        int time = NONE;

        Ask(Page page, int language, int kind, int pieces) {
            super(page, language, kind, pieces);
        }

        @Override
        int needAt(Shelf shelf) {
            return shelf.hardSecond;
        }

        void get(Told told, int newHow) {
            state = ANSWERED;
            version = told.version;
            how = newHow;
            time = told.time;
        }
    }

    private static final class Fetch extends Wish {
        /** The shelf of the place that fetches. */
        final Shelf shelf;
        final int above;
        final boolean isAlone;
        final int comesAt;
        final Wish[] waiting;
        int waitingCount;
        boolean isOpen = true;

        Fetch(Shelf shelf, Wish wish, int above, boolean isAlone, int comesAt) {
            super(wish.page, wish.language, wish.kind, wish.pieces);
            this.shelf = shelf;
            this.above = above;
            this.isAlone = isAlone;
            this.comesAt = comesAt;
            waiting = new Wish[MAX_WAITING];
        }

        @Override
        int needAt(Shelf at) {
            return above;
        }

        void takeOn(Wish wish) {
            if (isIndex(waitingCount, waiting.length)) {
                waiting[waitingCount] = wish;
                waitingCount++;
            }
        }

        void close() {
            isOpen = false;
            shelf.place.open--;
        }
    }

    private static final class Purge {
        final int pageSet;
        final boolean isHard;
        final int second;
        /** The bit k for the place k. */
        int comeTo;

        Purge(int pageSet, boolean isHard, int second) {
            this.pageSet = pageSet;
            this.isHard = isHard;
            this.second = second;
        }

        boolean isOf(int page) {
            return (pageSet >> page & 1) != 0;
        }

        boolean hasComeTo(int place) {
            return (comeTo >> place & 1) != 0;
        }

        void setComeTo(int place) {
            comeTo |= 1 << place;
        }
    }
}
