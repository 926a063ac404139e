/**
 * Tests a record of prices and bundles for sensible wishes. Sets of days are held as the bits of an int, so that no
 * call has to make an object: all rows are made once, together with the ledger.
 */
public final class WishLedger {
    public static final int NONE = -1;

    private static final int MOST_GOODS = 6;
    private static final int MOST_DAYS = 12;
    private static final int MOST_PRICE = 99;
    private static final int MOST_AMOUNT = 99;
    private static final int MOST_DOWN = 1000000;

    // The offered day has a row of its own behind those of the record, so that fits() can look at it as one day more
    // even when the record is full.
    private static final int OFFERED = MOST_DAYS;
    private static final int ROWS = MOST_DAYS + 1;

    private final Book book = new Book();
    private final Relation relation = new Relation();
    private final CircleFinder circles = new CircleFinder();
    private final DropFinder drops = new DropFinder();
    private final ShrinkageFinder shrinkages = new ShrinkageFinder();

    public WishLedger() {
        book.start(1);
    }

    public void goods(int n) throws IllegalArgumentException {
        if (n < 1 || n > MOST_GOODS) {
            throw new IllegalArgumentException("there are 1 to 6 goods");
        }
        book.start(n);
    }

    public int day() throws IllegalStateException {
        if (book.dayCount >= MOST_DAYS) {
            throw new IllegalStateException("there are 12 days");
        }
        return book.addDay();
    }

    public int price(int day, int good, int v) throws IndexOutOfBoundsException, IllegalArgumentException {
        requireDay(day);
        requireGood(good);
        requirePrice(v);
        return book.setPrice(day, good, v);
    }

    public int amount(int day, int good, int v) throws IndexOutOfBoundsException, IllegalArgumentException {
        requireDay(day);
        requireGood(good);
        requireAmount(v);
        return book.setAmount(day, good, v);
    }

    public void remove(int day) throws IndexOutOfBoundsException {
        requireDay(day);
        book.takeAway(day);
    }

    public int cost(int s, int t) throws IndexOutOfBoundsException {
        requireDay(s);
        requireDay(t);
        return book.costOf(s, t);
    }

    public int shown(int s, int t) throws IndexOutOfBoundsException {
        requireDay(s);
        requireDay(t);
        int spent = book.costOf(s, s);
        int other = book.costOf(s, t);
        if (other < spent) {
            return 2;
        }
        return other == spent ? 1 : 0;
    }

    public int chain(int s, int t) throws IndexOutOfBoundsException {
        requireDay(s);
        requireDay(t);
        readRecord();
        return relation.steps(s, t);
    }

    public boolean sensible(int what) throws IllegalArgumentException {
        requireZeroOrOne(what);
        readRecord();
        return what == 0 ? relation.isSensibleWithin(book.everyDay()) : !relation.hasPairAtOdds();
    }

    public int circle(int i) throws IllegalStateException, IndexOutOfBoundsException {
        readRecord();
        int length = circles.find(relation);
        if (length == 0) {
            throw new IllegalStateException("there is no circle");
        }
        if (i == NONE) {
            return length;
        }
        if (i < 0 || i >= length) {
            throw new IndexOutOfBoundsException("the circle has no such day");
        }
        return circles.list[i];
    }

    public boolean passes(int up, int down) throws IllegalArgumentException {
        if (down < 1 || down > MOST_DOWN || up < 1 || up > down) {
            throw new IllegalArgumentException("the fraction is above 0 and at most 1, its lower part at most 1000000");
        }
        relation.read(book, book.everyDay(), up, down);
        return relation.isSensibleWithin(book.everyDay());
    }

    public int shrinkage(int what) throws IllegalArgumentException {
        requireZeroOrOne(what);
        shrinkages.find(book);
        return what == 0 ? shrinkages.foundUp : shrinkages.foundDown;
    }

    public int drop(int i) throws IndexOutOfBoundsException {
        readRecord();
        int dropped = drops.find(relation, book.dayCount);
        int count = Integer.bitCount(dropped);
        if (i == NONE) {
            return count;
        }
        if (i < 0 || i >= count) {
            throw new IndexOutOfBoundsException("so many days need not be left out");
        }
        return member(dropped, i);
    }

    public void offer(int good, int price, int amount) throws IndexOutOfBoundsException, IllegalArgumentException {
        requireGood(good);
        requirePrice(price);
        requireAmount(amount);
        book.setPrice(OFFERED, good, price);
        book.setAmount(OFFERED, good, amount);
    }

    public boolean fits() {
        int withOffered = book.everyDay() | bit(OFFERED);
        relation.read(book, withOffered, 1, 1);
        return relation.isSensibleWithin(withOffered);
    }

    public int order(int i) throws IndexOutOfBoundsException {
        if (i < 0 || i >= book.dayCount) {
            throw new IndexOutOfBoundsException("there is no such place");
        }
        int left = book.everyDay();
        readRecord();
        relation.linkWithin(left);
        for (int place = 0; place < i; place++) {
            left &= ~bit(relation.bestOf(left));
        }
        return relation.bestOf(left);
    }

    public int size() {
        return book.dayCount;
    }

    private void readRecord() {
        relation.read(book, book.everyDay(), 1, 1);
    }

    private void requireDay(int day) {
        if (day < 0 || day >= book.dayCount) {
            throw new IndexOutOfBoundsException("there is no such day");
        }
    }

    private void requireGood(int good) {
        if (good < 0 || good >= book.goodCount) {
            throw new IndexOutOfBoundsException("there is no such good");
        }
    }

    private static void requirePrice(int v) {
        if (v < 1 || v > MOST_PRICE) {
            throw new IllegalArgumentException("a price is 1 to 99");
        }
    }

    private static void requireAmount(int v) {
        if (v < 0 || v > MOST_AMOUNT) {
            throw new IllegalArgumentException("an amount is 0 to 99");
        }
    }

    private static void requireZeroOrOne(int what) {
        if (what != 0 && what != 1) {
            throw new IllegalArgumentException("0 or 1 is asked for");
        }
    }

    private static int bit(int day) {
        return 1 << day;
    }

    private static boolean has(int set, int day) {
        return (set & bit(day)) != 0;
    }

    /** The i-th day of a set in rising order, from 0, or NONE. */
    private static int member(int set, int i) {
        int before = 0;
        for (int day = 0; day < ROWS; day++) {
            if (has(set, day)) {
                if (before == i) {
                    return day;
                }
                before++;
            }
        }
        return NONE;
    }

    /** The prices and amounts: a row for each day, and the row of the offered day. */
    private static final class Book {
        private final int[] prices = new int[ROWS * MOST_GOODS];
        private final int[] amounts = new int[ROWS * MOST_GOODS];
        private int goodCount;
        private int dayCount;

        private void start(int n) {
            goodCount = n;
            dayCount = 0;
            clearRow(OFFERED);
        }

        private void clearRow(int row) {
            for (int good = 0; good < MOST_GOODS; good++) {
                prices[row * MOST_GOODS + good] = 1;
                amounts[row * MOST_GOODS + good] = 0;
            }
        }

        private int addDay() {
            int added = dayCount;
            clearRow(added);
            dayCount++;
            return added;
        }

        private void takeAway(int day) {
            dayCount--;
            for (int at = day * MOST_GOODS; at < dayCount * MOST_GOODS; at++) {
                prices[at] = prices[at + MOST_GOODS];
                amounts[at] = amounts[at + MOST_GOODS];
            }
        }

        private int setPrice(int row, int good, int v) {
            int before = prices[row * MOST_GOODS + good];
            prices[row * MOST_GOODS + good] = v;
            return before;
        }

        private int setAmount(int row, int good, int v) {
            int before = amounts[row * MOST_GOODS + good];
            amounts[row * MOST_GOODS + good] = v;
            return before;
        }

        private int costOf(int s, int t) {
            int sum = 0;
            for (int good = 0; good < goodCount; good++) {
                sum += prices[s * MOST_GOODS + good] * amounts[t * MOST_GOODS + good];
            }
            return sum;
        }

        private int everyDay() {
            return bit(dayCount) - 1;
        }
    }

    /** Which days each day is shown as good as, and better than. */
    private static final class Relation {
        private final int[] asGood = new int[ROWS];
        private final int[] better = new int[ROWS];
        private final int[] byChain = new int[ROWS];

        /** Takes the relation of the days that are present from the book, shrunk by up / down. */
        private void read(Book book, int present, int up, int down) {
            for (int s = 0; s < ROWS; s++) {
                asGood[s] = 0;
                better[s] = 0;
                if (has(present, s)) {
                    readRow(book, present, s, up, down);
                }
            }
        }

        private void readRow(Book book, int present, int s, long up, long down) {
            long limit = up * book.costOf(s, s);
            asGood[s] = bit(s);
            for (int t = 0; t < ROWS; t++) {
                if (t != s && has(present, t)) {
                    long other = down * book.costOf(s, t);
                    asGood[s] |= other <= limit ? bit(t) : 0;
                    better[s] |= other < limit ? bit(t) : 0;
                }
            }
        }

        /** Fills byChain with the chains that pass through the given days alone. */
        private void linkWithin(int present) {
            for (int s = 0; s < ROWS; s++) {
                byChain[s] = has(present, s) ? asGood[s] & present : 0;
            }
            for (int via = 0; via < ROWS; via++) {
                for (int s = 0; s < ROWS; s++) {
                    if (has(byChain[s], via)) {
                        byChain[s] |= byChain[via];
                    }
                }
            }
        }

        private boolean isSensibleWithin(int present) {
            linkWithin(present);
            for (int s = 0; s < ROWS; s++) {
                for (int t = 0; t < ROWS; t++) {
                    if (has(byChain[s], t) && has(better[t], s)) {
                        return false;
                    }
                }
            }
            return true;
        }

        private boolean hasPairAtOdds() {
            for (int s = 0; s < ROWS; s++) {
                for (int t = 0; t < ROWS; t++) {
                    if (has(asGood[s], t) && has(better[t], s)) {
                        return true;
                    }
                }
            }
            return false;
        }

        /** How many steps the shortest chain from s to t has, or NONE. */
        private int steps(int s, int t) {
            int reached = asGood[s];
            for (int count = 1; count <= ROWS; count++) {
                if (has(reached, t)) {
                    return count;
                }
                reached = oneStepFrom(reached);
            }
            return NONE;
        }

        private int oneStepFrom(int set) {
            int reached = 0;
            for (int s = 0; s < ROWS; s++) {
                reached |= has(set, s) ? asGood[s] : 0;
            }
            return reached;
        }

        /** The lowest of the days left than which no other one left is better by a chain. */
        private int bestOf(int left) {
            for (int s = 0; s < ROWS; s++) {
                if (has(left, s) && !isOutdone(s, left)) {
                    return s;
                }
            }
            return NONE;
        }

        private boolean isOutdone(int s, int left) {
            for (int t = 0; t < ROWS; t++) {
                if (has(left, t) && has(byChain[t], s) && !has(byChain[s], t)) {
                    return true;
                }
            }
            return false;
        }
    }

    /**
     * Finds the least of the shortest circles. It looks for ways back to the start that have a better step in them; such
     * a way may come to a day twice, but a shortest one never does: what is between the two visits, or what is left
     * without it, would be a shorter way with a better step.
     */
    private static final class CircleFinder {
        // Bit s of home[n]: n steps or fewer lead from day s to the start; of homeBetter[n]: and one of them is better.
        private final int[] home = new int[MOST_DAYS + 1];
        private final int[] homeBetter = new int[MOST_DAYS + 1];
        private final int[] list = new int[MOST_DAYS];

        /** How many days the circle has, which are then in the list, or 0 if there is none. */
        private int find(Relation relation) {
            int first = NONE;
            int length = 0;
            for (int start = 0; start < MOST_DAYS; start++) {
                int found = shortestFrom(relation, start);
                if (found != 0 && (first == NONE || found < length)) {
                    first = start;
                    length = found;
                }
            }
            if (first != NONE) {
                lookHome(relation, first);
                writeList(relation, first, length);
            }
            return length;
        }

        private int shortestFrom(Relation relation, int start) {
            lookHome(relation, start);
            for (int n = 1; n <= MOST_DAYS; n++) {
                if (has(homeBetter[n], start)) {
                    return n;
                }
            }
            return 0;
        }

        private void lookHome(Relation relation, int start) {
            home[0] = bit(start);
            homeBetter[0] = 0;
            for (int n = 1; n <= MOST_DAYS; n++) {
                home[n] = 0;
                homeBetter[n] = 0;
                for (int s = 0; s < MOST_DAYS; s++) {
                    home[n] |= (relation.asGood[s] & home[n - 1]) != 0 ? bit(s) : 0;
                    homeBetter[n] |= nextWithBetter(relation, s, n - 1) != 0 ? bit(s) : 0;
                }
            }
        }

        /** The days that may come next behind s, when n steps are left then and no step was better so far. */
        private int nextWithBetter(Relation relation, int s, int n) {
            return relation.asGood[s] & homeBetter[n] | relation.better[s] & home[n];
        }

        private void writeList(Relation relation, int first, int length) {
            int at = first;
            boolean wasBetter = false;
            for (int i = 0; i < length && at != NONE; i++) {
                list[i] = at;
                int left = length - 1 - i;
                int next = wasBetter ? relation.asGood[at] & home[left] : nextWithBetter(relation, at, left);
                int chosen = member(next, 0);
                wasBetter = wasBetter || chosen != NONE && has(relation.better[at], chosen);
                at = chosen;
            }
        }
    }

    /** Finds the fewest days to leave out. */
    private static final class DropFinder {
        private int fewest;
        private int best;

        private int find(Relation relation, int dayCount) {
            fewest = dayCount + 1;
            best = 0;
            decide(relation, dayCount - 1, 0, 0);
            return best;
        }

        /**
         * Keeps or drops the given day and those below it. Keeping is tried first, from the greatest day down: so of
         * several lists that are equally long the due one comes first, and a later one must be shorter to count.
         */
        private void decide(Relation relation, int day, int kept, int dropped) {
            if (Integer.bitCount(dropped) >= fewest) {
                return;
            }
            if (day < 0) {
                fewest = Integer.bitCount(dropped);
                best = dropped;
                return;
            }
            if (relation.isSensibleWithin(kept | bit(day))) {
                decide(relation, day - 1, kept | bit(day), dropped);
            }
            decide(relation, day - 1, kept, dropped | bit(day));
        }
    }

    /**
     * Finds the shrinkage. A ring of days becomes a circle as soon as the fraction is above each of its steps' parts
     * cost(s, t) / cost(s, s): so the shrinkage is the greatest part of the ring whose greatest part is least, or 1.
     */
    private static final class ShrinkageFinder {
        // The fraction 1 / 0 stands for no way at all: it is greater than each other one when both are multiplied out.
        private final int[] up = new int[MOST_DAYS * MOST_DAYS];
        private final int[] down = new int[MOST_DAYS * MOST_DAYS];
        private int foundUp;
        private int foundDown;

        private void find(Book book) {
            readSteps(book);
            for (int via = 0; via < book.dayCount; via++) {
                goThrough(via, book.dayCount);
            }
            foundUp = 1;
            foundDown = 1;
            for (int s = 0; s < book.dayCount; s++) {
                int ring = s * MOST_DAYS + s;
                if (isLess(up[ring], down[ring], foundUp, foundDown)) {
                    foundUp = up[ring];
                    foundDown = down[ring];
                }
            }
            reduce();
        }

        /** A day on which nothing was spent is never better than another one: no circle goes through it. */
        private void readSteps(Book book) {
            for (int s = 0; s < book.dayCount; s++) {
                int spent = book.costOf(s, s);
                for (int t = 0; t < book.dayCount; t++) {
                    boolean isStep = s != t && spent > 0;
                    up[s * MOST_DAYS + t] = isStep ? book.costOf(s, t) : 1;
                    down[s * MOST_DAYS + t] = isStep ? spent : 0;
                }
            }
        }

        private void goThrough(int via, int dayCount) {
            for (int s = 0; s < dayCount; s++) {
                for (int t = 0; t < dayCount; t++) {
                    int to = s * MOST_DAYS + via;
                    int from = via * MOST_DAYS + t;
                    int greater = isLess(up[to], down[to], up[from], down[from]) ? from : to;
                    int direct = s * MOST_DAYS + t;
                    if (isLess(up[greater], down[greater], up[direct], down[direct])) {
                        up[direct] = up[greater];
                        down[direct] = down[greater];
                    }
                }
            }
        }

        private static boolean isLess(long up, long down, long otherUp, long otherDown) {
            return up * otherDown < otherUp * down;
        }

        private void reduce() {
            int divisor = foundUp;
            int rest = foundDown;
            for (int round = 0; round < 64 && rest != 0; round++) {
                int next = divisor % rest;
                divisor = rest;
                rest = next;
            }
            if (divisor > 1) {
                foundUp /= divisor;
                foundDown /= divisor;
            }
        }
    }
}
