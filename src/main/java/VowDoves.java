import java.util.Arrays;

/** A dovecote whose holes are let by vows: the document's promises 1 to 22. */
public final class VowDoves {
    public static final int NONE = -1, UNKNOWN = -101, OUTSIDE = -102, STATE = -103, FULL = -104;

    private static final int FEWEST = 2;
    private static final int MOST = 5;
    private static final int MOST_LETTERS = 22;
    private static final int MOST_SEEN = 8;
    private static final int MOST_OF_ONE_KEEPER = 2;
    private static final int LAST_YEAR = 99;
    private static final int LONGEST_CENTURIES = 60;
    private static final int HARDEST = 9;
    private static final int MOST_FAITH = 9;
    private static final int TEN_YEARS = 10;

    private static final String KIND_LETTERS = "kwlbm";
    private static final int KEEPER = 0, WIDOW = 1, LORD = 2, BOY = 3, MONK = 4;
    private static final int NO_BIRD = 0, DOVE = 1, OWL = 2;

    private static final long DRAW_FACTOR = 1103515245L;
    private static final long DRAW_STEP = 12345L;
    private static final long DRAW_MASK = 0x7fffffffL;

    private final Page page;
    private final Cote cote;
    private final Book book;
    private final Book keptBook;
    private final Matching matching;
    private final Centuries run;
    private boolean isImageKept;
    private int towersRead;

    public VowDoves() {
        page = new Page();
        cote = new Cote();
        book = new Book();
        keptBook = new Book();
        matching = new Matching();
        run = new Centuries();
        isImageKept = false;
        towersRead = 0;
    }

    // ---- the tower

    public int letter(int code) {
        if (code < 1 || code > 126) {
            return OUTSIDE;
        }
        if (page.size >= MOST_LETTERS) {
            return FULL;
        }
        page.letters[page.size] = code;
        page.size++;
        return page.size;
    }

    public int blank() {
        int had = page.size;
        page.size = 0;
        return had;
    }

    public int fault() {
        return page.scan();
    }

    public int tower() {
        if (!page.isTower()) {
            return STATE;
        }
        cote.readFrom(page);
        book.clear();
        isImageKept = false;
        towersRead++;
        page.size = 0;
        return cote.holes;
    }

    public int keeper(int keeper, int what) {
        if (!cote.hasKeeper(keeper)) {
            return UNKNOWN;
        }
        switch (what) {
            case 0: return cote.kinds[keeper];
            case 1: return cote.faiths[keeper];
            case 2: return book.holesOf(keeper);
            case 3: return book.eggsOf(keeper);
            case 4: return book.broken[keeper];
            case 5: return possibleFaiths(keeper);
            case 6: return likelyFaith(keeper);
            default: return OUTSIDE;
        }
    }

    public int as(int keeper, int kind) {
        if (!cote.hasKeeper(keeper)) {
            return UNKNOWN;
        }
        if (kind < KEEPER || kind > MONK) {
            return OUTSIDE;
        }
        return isOfKind(cote.kinds[keeper], kind) ? keeper : NONE;
    }

    public int keeps(int keeper, int hard) {
        if (!cote.hasKeeper(keeper)) {
            return UNKNOWN;
        }
        if (hard < 0 || hard > HARDEST) {
            return OUTSIDE;
        }
        return cote.yearsKept(keeper, hard);
    }

    public int hole(int hole, int what) {
        if (!cote.hasHole(hole)) {
            return UNKNOWN;
        }
        switch (what) {
            case 0: return cote.hards[hole];
            case 1: return book.letTo[hole];
            case 2: return book.birds[hole];
            case 3: return book.eggs[hole];
            case 4: return cote.yearsKept(book.letTo[hole], cote.hards[hole]);
            default: return OUTSIDE;
        }
    }

    // ---- holes let and left, years

    public int let(int hole, int keeper) {
        if (!cote.hasHole(hole) || !cote.hasKeeper(keeper)) {
            return UNKNOWN;
        }
        if (book.birds[hole] != NO_BIRD || book.roomOf(keeper) <= 0) {
            return STATE;
        }
        book.letTo[hole] = keeper;
        book.birds[hole] = DOVE;
        return Integer.bitCount(book.holesOf(keeper));
    }

    public int leave(int hole) {
        if (!cote.hasHole(hole)) {
            return UNKNOWN;
        }
        if (book.birds[hole] != DOVE) {
            return STATE;
        }
        int had = book.eggs[hole];
        book.empty(hole, NO_BIRD);
        return had;
    }

    public int year(int kept) {
        // Without a TOWER there are no HOLES, so no bit is one of a HOLE.
        if (kept < 0 || kept >= (1 << cote.holes)) {
            return OUTSIDE;
        }
        if (!cote.stands()) {
            return STATE;
        }
        if (book.years >= LAST_YEAR) {
            return FULL;
        }
        book.years++;
        int keptVows = 0;
        for (int hole = 0; hole < cote.holes; hole++) {
            int keeper = book.letTo[hole];
            if (!cote.hasKeeper(keeper)) {
                continue;
            }
            if ((kept >> hole & 1) == 1) {
                keptVows++;
                book.eggs[hole] += cote.eggsOfAYear(keeper);
            } else {
                book.broken[keeper]++;
                book.empty(hole, OWL);
            }
        }
        return keptVows;
    }

    public int forgive() {
        int owls = 0;
        for (int hole = 0; hole < cote.holes; hole++) {
            if (book.birds[hole] == OWL) {
                book.empty(hole, NO_BIRD);
                owls++;
            }
        }
        return owls;
    }

    // ---- what would be

    public long odds(int years, int what) {
        if (years < 1 || years > 2 || what < 0 || what > 1) {
            return OUTSIDE;
        }
        if (!cote.stands()) {
            return STATE;
        }
        long above = 1;
        long below = 1;
        for (int hole = 0; hole < cote.holes; hole++) {
            if (book.birds[hole] == DOVE) {
                above *= cote.yearsKept(book.letTo[hole], cote.hards[hole]);
                below *= TEN_YEARS;
            }
        }
        long part = what == 0 ? above : below;
        long shared = greatestDivisor(above, below);
        long lowest = shared > 0 ? part / shared : part;
        return years == 1 ? lowest : lowest * lowest;
    }

    public int match(int what) {
        if (what != 0 && (what < 10 || what >= 10 + MOST)) {
            return OUTSIDE;
        }
        if (!cote.stands()) {
            return STATE;
        }
        matching.solve(cote, book);
        return what == 0 ? matching.most : matching.best[what - 10];
    }

    // ---- what is seen

    public int see(int keeper, int hard, boolean kept) {
        if (!cote.hasKeeper(keeper)) {
            return UNKNOWN;
        }
        if (hard < 0 || hard > HARDEST) {
            return OUTSIDE;
        }
        if (book.seen >= MOST_SEEN) {
            return FULL;
        }
        book.seenKeepers[book.seen] = keeper;
        book.seenHards[book.seen] = hard;
        book.seenKept[book.seen] = kept;
        book.seen++;
        return book.seen;
    }

    public int forget() {
        int was = book.seen;
        book.seen = 0;
        return was;
    }

    public int centuries(int years, int seed, int what) {
        if (years < 1 || years > LONGEST_CENTURIES || seed < 0 || what < 0 || what > 2) {
            return OUTSIDE;
        }
        if (!cote.stands()) {
            return STATE;
        }
        run.pass(cote, book, years, seed);
        switch (what) {
            case 0: return run.broken;
            case 1: return run.allEggs();
            default: return (int) run.seed;
        }
    }

    // ---- what is told of all

    public int image() {
        if (!cote.stands()) {
            return STATE;
        }
        keptBook.copyFrom(book);
        isImageKept = true;
        return book.years;
    }

    public int restore() {
        if (!isImageKept) {
            return STATE;
        }
        book.copyFrom(keptBook);
        return book.years;
    }

    public int count(int what) {
        switch (what) {
            case 0: return cote.keepers;
            case 1: return cote.holes;
            case 2: return book.holesWith(DOVE);
            case 3: return book.holesWith(OWL);
            case 4: return sum(book.eggs);
            case 5: return sum(book.broken);
            case 6: return book.years;
            case 7: return book.seen;
            case 8: return page.size;
            case 9: return towersRead;
            default: return OUTSIDE;
        }
    }

    public long digest() {
        long h = 1063;
        for (int keeper = 0; keeper < cote.keepers; keeper++) {
            h = digestKeeper(h, keeper);
        }
        for (int hole = 0; hole < cote.holes; hole++) {
            for (int what = 0; what <= 4; what++) {
                h = digestNumber(h, hole(hole, what));
            }
        }
        if (cote.stands()) {
            h = digestWhatWouldBe(h);
        }
        for (int place = 0; place < page.size; place++) {
            h = digestNumber(h, page.letters[place]);
        }
        for (int what = 0; what <= 9; what++) {
            h = digestNumber(h, count(what));
        }
        return h;
    }

    private long digestKeeper(long before, int keeper) {
        long h = before;
        for (int what = 0; what <= 6; what++) {
            h = digestNumber(h, keeper(keeper, what));
        }
        h = digestNumber(h, keeps(keeper, 0));
        h = digestNumber(h, keeps(keeper, 5));
        return digestNumber(h, keeps(keeper, 9));
    }

    private long digestWhatWouldBe(long before) {
        long h = digestNumber(before, odds(2, 0));
        h = digestNumber(h, odds(2, 1));
        // One search tells all six numbers; match() would search for each.
        matching.solve(cote, book);
        h = digestNumber(h, matching.most);
        for (int hole = 0; hole < MOST; hole++) {
            h = digestNumber(h, matching.best[hole]);
        }
        return h;
    }

    private static long digestNumber(long h, long number) {
        return 31 * h + number;
    }

    private int possibleFaiths(int keeper) {
        int bits = 0;
        for (int faith = 0; faith <= MOST_FAITH; faith++) {
            if (likelihood(keeper, faith) > 0) {
                bits |= 1 << faith;
            }
        }
        return bits;
    }

    private int likelyFaith(int keeper) {
        int likely = NONE;
        long most = 0;
        for (int faith = 0; faith <= MOST_FAITH; faith++) {
            long chance = likelihood(keeper, faith);
            if (chance > most) {
                most = chance;
                likely = faith;
            }
        }
        return likely;
    }

    /** How likely all that is seen of him is by that faith, in parts alike for all faiths; 0: it can't be. */
    private long likelihood(int keeper, int faith) {
        long chance = 1;
        for (int i = 0; i < book.seen; i++) {
            if (book.seenKeepers[i] == keeper) {
                int kept = yearsKeptBy(cote.kinds[keeper], faith, book.seenHards[i]);
                chance *= book.seenKept[i] ? kept : TEN_YEARS - kept;
            }
        }
        return chance;
    }

    private static boolean isOfKind(int kind, int asked) {
        return asked == KEEPER || kind == asked || (kind == MONK && asked == WIDOW);
    }

    private static int yearsKeptBy(int kind, int faith, int hard) {
        int counted = isOfKind(kind, MONK) ? faith + 2 : faith;
        int weight = isOfKind(kind, BOY) ? 2 * hard : hard;
        int least = isOfKind(kind, WIDOW) ? 3 : 0;
        return Math.max(least, Math.min(TEN_YEARS, counted + 5 - weight));
    }

    private static int sum(int[] numbers) {
        int all = 0;
        for (int number : numbers) {
            all += number;
        }
        return all;
    }

    private static long greatestDivisor(long one, long other) {
        long larger = one;
        long smaller = other;
        // Numbers below 2 to the 63 need less than 100 steps.
        for (int step = 0; step < 100 && smaller != 0; step++) {
            long rest = larger % smaller;
            larger = smaller;
            smaller = rest;
        }
        return larger;
    }

    /** The letters that are to become a tower. */
    private static final class Page {
        final int[] letters = new int[MOST_LETTERS];
        int size;
        /** The place behind the ';', as the last scan found it; 0 if it found none. */
        int vowsBegin;

        /** How many letters, from the first, some tower begins with. */
        int scan() {
            vowsBegin = 0;
            for (int place = 0; place < size; place++) {
                if (!fits(place)) {
                    return place;
                }
            }
            return size;
        }

        boolean isTower() {
            return scan() == size && vowsBegin > 0 && size - vowsBegin >= FEWEST;
        }

        private boolean fits(int place) {
            int code = letters[place];
            if (vowsBegin > 0) {
                return isDigit(code) && place - vowsBegin < MOST;
            }
            switch (place % 3) {
                case 0: return KIND_LETTERS.indexOf((char) code) >= 0;
                case 1: return isDigit(code);
                default: return endsKeeper(place, code);
            }
        }

        private boolean endsKeeper(int place, int code) {
            int keepers = place / 3 + 1;
            if (code == ';' && keepers >= FEWEST) {
                vowsBegin = place + 1;
                return true;
            }
            return code == ',' && keepers < MOST;
        }

        private static boolean isDigit(int code) {
            return code >= '0' && code <= '9';
        }
    }

    /** The tower as its text tells it; with no keepers and no holes there is none. */
    private static final class Cote {
        final int[] kinds = new int[MOST];
        final int[] faiths = new int[MOST];
        final int[] hards = new int[MOST];
        int keepers;
        int holes;

        /** Of a page that is a tower. */
        void readFrom(Page page) {
            keepers = Math.min(MOST, page.vowsBegin / 3);
            holes = Math.min(MOST, page.size - page.vowsBegin);
            for (int keeper = 0; keeper < keepers; keeper++) {
                kinds[keeper] = KIND_LETTERS.indexOf((char) page.letters[3 * keeper]);
                faiths[keeper] = page.letters[3 * keeper + 1] - '0';
            }
            for (int hole = 0; hole < holes; hole++) {
                hards[hole] = page.letters[page.vowsBegin + hole] - '0';
            }
        }

        boolean stands() {
            return keepers > 0;
        }

        boolean hasKeeper(int keeper) {
            return keeper >= 0 && keeper < keepers;
        }

        boolean hasHole(int hole) {
            return hole >= 0 && hole < holes;
        }

        /** In how many of ten years the keeper keeps such a vow; NONE of nobody. */
        int yearsKept(int keeper, int hard) {
            return hasKeeper(keeper) ? yearsKeptBy(kinds[keeper], faiths[keeper], hard) : NONE;
        }

        /** How many eggs more a kept vow brings: a lord eats his. */
        int eggsOfAYear(int keeper) {
            return hasKeeper(keeper) && isOfKind(kinds[keeper], LORD) ? 0 : 1;
        }
    }

    /** All that changes while a tower stands, and that an image keeps. */
    private static final class Book {
        final int[] letTo = new int[MOST];
        final int[] birds = new int[MOST];
        final int[] eggs = new int[MOST];
        final int[] broken = new int[MOST];
        final int[] seenKeepers = new int[MOST_SEEN];
        final int[] seenHards = new int[MOST_SEEN];
        final boolean[] seenKept = new boolean[MOST_SEEN];
        int seen;
        int years;

        Book() {
            Arrays.fill(letTo, NONE);
        }

        void clear() {
            for (int hole = 0; hole < MOST; hole++) {
                empty(hole, NO_BIRD);
            }
            Arrays.fill(broken, 0);
            seen = 0;
            years = 0;
        }

        void copyFrom(Book other) {
            System.arraycopy(other.letTo, 0, letTo, 0, MOST);
            System.arraycopy(other.birds, 0, birds, 0, MOST);
            System.arraycopy(other.eggs, 0, eggs, 0, MOST);
            System.arraycopy(other.broken, 0, broken, 0, MOST);
            System.arraycopy(other.seenKeepers, 0, seenKeepers, 0, MOST_SEEN);
            System.arraycopy(other.seenHards, 0, seenHards, 0, MOST_SEEN);
            // The library's copy is kept to arrays of numbers.
            for (int i = 0; i < MOST_SEEN; i++) {
                seenKept[i] = other.seenKept[i];
            }
            seen = other.seen;
            years = other.years;
        }

        /** Nobody has the hole any more, and its eggs are gone. */
        void empty(int hole, int bird) {
            letTo[hole] = NONE;
            birds[hole] = bird;
            eggs[hole] = 0;
        }

        int holesOf(int keeper) {
            int bits = 0;
            for (int hole = 0; hole < MOST; hole++) {
                if (letTo[hole] == keeper) {
                    bits |= 1 << hole;
                }
            }
            return bits;
        }

        int eggsOf(int keeper) {
            int all = 0;
            for (int hole = 0; hole < MOST; hole++) {
                if (letTo[hole] == keeper) {
                    all += eggs[hole];
                }
            }
            return all;
        }

        /** How many holes more the keeper may have. */
        int roomOf(int keeper) {
            return MOST_OF_ONE_KEEPER - Integer.bitCount(holesOf(keeper));
        }

        int holesWith(int bird) {
            int holes = 0;
            for (int here : birds) {
                if (here == bird) {
                    holes++;
                }
            }
            return holes;
        }
    }

    /** To whom the vacant holes should be let. */
    private static final class Matching {
        /** By hole and keeper: in how many of ten years the vow would be kept; 0: the hole is not vacant. */
        private final int[][] worth = new int[MOST][MOST];
        /** By hole: no letting of it and of those behind it brings more. */
        private final int[] limit = new int[MOST + 1];
        private final int[] room = new int[MOST];
        private final int[] tried = new int[MOST];
        final int[] best = new int[MOST];
        int most;

        void solve(Cote cote, Book book) {
            for (int keeper = 0; keeper < MOST; keeper++) {
                room[keeper] = cote.hasKeeper(keeper) ? book.roomOf(keeper) : 0;
            }
            for (int hole = MOST - 1; hole >= 0; hole--) {
                boolean isVacant = cote.hasHole(hole) && book.birds[hole] == NO_BIRD;
                limit[hole] = limit[hole + 1] + weigh(cote, hole, isVacant);
                tried[hole] = NONE;
            }
            most = -1;
            search(this, 0, 0);
        }

        /** Fills the worth of a hole: what the best keeper would bring. */
        private int weigh(Cote cote, int hole, boolean isVacant) {
            int highest = 0;
            for (int keeper = 0; keeper < MOST; keeper++) {
                worth[hole][keeper] = isVacant ? cote.yearsKept(keeper, cote.hards[hole]) : 0;
                highest = Math.max(highest, worth[hole][keeper]);
            }
            return highest;
        }

        /** Goes through lettings in the document's order, so that the first of like ones stays. */
        private static void search(Matching m, int hole, int sum) {
            if (sum + m.limit[hole] <= m.most) {
                return;
            }
            if (hole >= MOST) {
                m.most = sum;
                System.arraycopy(m.tried, 0, m.best, 0, MOST);
                return;
            }
            search(m, hole + 1, sum);
            for (int keeper = 0; keeper < MOST; keeper++) {
                // One who never keeps it is no better than nobody, who comes ahead of him.
                if (m.room[keeper] > 0 && m.worth[hole][keeper] > 0) {
                    m.room[keeper]--;
                    m.tried[hole] = keeper;
                    search(m, hole + 1, sum + m.worth[hole][keeper]);
                    m.room[keeper]++;
                }
            }
            m.tried[hole] = NONE;
        }
    }

    /** Years as they would be by a seed; the book stays as it is. */
    private static final class Centuries {
        private final int[] eggs = new int[MOST];
        int broken;
        long seed;

        void pass(Cote cote, Book book, int years, int firstSeed) {
            System.arraycopy(book.eggs, 0, eggs, 0, MOST);
            broken = 0;
            seed = firstSeed;
            for (int passed = 0; passed < years; passed++) {
                for (int hole = 0; hole < cote.holes; hole++) {
                    if (book.birds[hole] == DOVE) {
                        passYear(cote, hole, book.letTo[hole]);
                    }
                }
            }
        }

        int allEggs() {
            return sum(eggs);
        }

        private void passYear(Cote cote, int hole, int keeper) {
            if (drawOfTen() < cote.yearsKept(keeper, cote.hards[hole])) {
                eggs[hole] += cote.eggsOfAYear(keeper);
            } else {
                // It is forgiven and let to the same one again, so only the eggs are gone.
                eggs[hole] = 0;
                broken++;
            }
        }

        private long drawOfTen() {
            seed = (DRAW_FACTOR * seed + DRAW_STEP) & DRAW_MASK;
            return seed / 65536 % TEN_YEARS;
        }
    }
}
