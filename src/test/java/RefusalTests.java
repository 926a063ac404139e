import java.util.ArrayList;
import java.util.List;

/**
 * For each sentence of the document that refuses a call: the exception that it names, for the first value beyond each
 * end and for values far beyond, on an empty record, a sensible one, one that is not, and a full one; and that the
 * refused call left the record and the offered day as they were. Each refused call has an object of its own.
 */
public final class RefusalTests {
    private static final String STATE = "IllegalStateException";
    private static final String ARGUMENT = "IllegalArgumentException";
    private static final String INDEX = "IndexOutOfBoundsException";

    private static final int LEAST = Integer.MIN_VALUE;
    private static final int GREATEST = Integer.MAX_VALUE;

    private static final int[] NO_GOOD = {-1, 2, 3, 5, 6, LEAST, GREATEST};
    private static final int[] NO_PRICE = {0, 100, -1, 101, LEAST, GREATEST};
    private static final int[] NO_AMOUNT = {-1, 100, -2, 101, LEAST, GREATEST};
    private static final int[] NO_WHAT = {-1, 2, -2, 3, LEAST, GREATEST};

    private static String sentence = "";
    private static int tests = 0;
    private static int refusals = 0;
    private static int wrong = 0;

    private interface Call {
        void on(WishLedger x);
    }

    /** A record of two goods, from which a new object is made for each call. */
    private static final class Sample {
        private final String name;
        private final int[][] prices;
        private final int[][] amounts;

        Sample(String name, int[][] prices, int[][] amounts) {
            this.name = name;
            this.prices = prices;
            this.amounts = amounts;
        }

        int days() {
            return prices.length;
        }

        WishLedger make() {
            WishLedger x = new WishLedger();
            x.goods(2);
            for (int day = 0; day < days(); day++) {
                x.day();
                for (int good = 0; good < 2; good++) {
                    x.price(day, good, prices[day][good]);
                    x.amount(day, good, amounts[day][good]);
                }
            }
            x.offer(0, 3, 4);
            x.offer(1, 2, 5);
            return x;
        }

        /** The first days beyond each end, those that have a row of their own inside, and some far away. */
        int[] noDays() {
            return new int[] {-1, days(), days() + 1, 12, 13, LEAST, GREATEST};
        }
    }

    private static final Sample EMPTY = new Sample("an empty record", new int[][] {}, new int[][] {});

    /** Day 1 is shown better than day 0; on day 2 nothing was spent. */
    private static final Sample SENSIBLE = new Sample("a sensible record",
        new int[][] {{1, 2}, {1, 2}, {3, 1}}, new int[][] {{1, 2}, {2, 2}, {0, 0}});

    /** Days 0 and 1 are each shown better than the other. */
    private static final Sample AT_ODDS = new Sample("a record at odds",
        new int[][] {{1, 2}, {2, 1}, {1, 1}}, new int[][] {{1, 2}, {2, 1}, {2, 2}});

    private static final Sample FULL = fullRecord();

    private static final Sample[] ALL = {EMPTY, SENSIBLE, AT_ODDS, FULL};
    private static final Sample[] WITH_DAYS = {SENSIBLE, AT_ODDS, FULL};

    /** Twelve days, of which 4 and 7 alone are at odds with each other. */
    private static Sample fullRecord() {
        int[][] prices = new int[12][];
        int[][] amounts = new int[12][];
        for (int day = 0; day < 12; day++) {
            prices[day] = new int[] {5, 5};
            amounts[day] = new int[] {20 + day, 20 + day};
        }
        prices[4] = new int[] {1, 2};
        amounts[4] = new int[] {1, 2};
        prices[7] = new int[] {2, 1};
        amounts[7] = new int[] {2, 1};
        return new Sample("a full record", prices, amounts);
    }

    private static void test(String quoted, Runnable body) {
        sentence = quoted;
        tests++;
        int before = refusals;
        body.run();
        due("calls of this test", refusals > before, true);
    }

    private static void due(String what, Object got, Object want) {
        if (!got.equals(want)) {
            wrong++;
            System.out.println("[" + sentence + "] " + what + ": " + got + ", due is " + want);
        }
    }

    /** The very class of the exception: one that comes of itself would be of a narrower class. */
    private static String thrownBy(WishLedger x, Call call) {
        try {
            call.on(x);
        } catch (RuntimeException e) {
            return e.getClass().getSimpleName();
        }
        return "nothing";
    }

    private static void refused(Sample sample, String exception, String name, Call call) {
        refusals++;
        String where = sample.name + ": " + name;
        WishLedger x = sample.make();
        due(where + " throws", thrownBy(x, call), exception);
        due(where + " throws again", thrownBy(x, call), exception);
        due("behind " + where + ", the answers", answers(x), answers(sample.make()));
        dueDaysAsBefore("behind " + where, sample, x);
        dueOfferAsBefore("behind " + where, x);
    }

    private static List<Integer> answers(WishLedger x) {
        List<Integer> all = new ArrayList<>();
        all.add(x.size());
        for (int i = 0; i < x.size(); i++) {
            all.add(x.order(i));
            all.add(x.chain(x.size() - 1, i));
        }
        for (int i = -1; i < x.drop(-1); i++) {
            all.add(x.drop(i));
        }
        all.add(x.sensible(0) ? 1 : 0);
        all.add(x.sensible(1) ? 1 : 0);
        all.add(x.passes(1, 2) ? 1 : 0);
        all.add(x.shrinkage(0));
        all.add(x.shrinkage(1));
        all.add(x.fits() ? 1 : 0);
        if (!x.sensible(0)) {
            all.add(x.circle(0));
        }
        return all;
    }

    private static void dueDaysAsBefore(String where, Sample sample, WishLedger x) {
        due(where + ", size()", x.size(), sample.days());
        for (int day = 0; day < Math.min(sample.days(), x.size()); day++) {
            for (int good = 0; good < 2; good++) {
                int price = sample.prices[day][good];
                int amount = sample.amounts[day][good];
                due(where + ", price of good " + good + " on day " + day, x.price(day, good, price), price);
                due(where + ", amount of good " + good + " on day " + day, x.amount(day, good, amount), amount);
            }
        }
    }

    /**
     * The offered day buys (4, 5) at the prices (3, 2), for 22. Against one day with the prices (1, 1) that buys 11 of
     * good 1, which cost 22 there, it is at odds; against 12 of them it is not. With another price or amount of either
     * good one of these two answers would be another one.
     */
    private static void dueOfferAsBefore(String where, WishLedger x) {
        for (int day = x.size() - 1; day >= 0; day--) {
            x.remove(day);
        }
        x.day();
        due(where + ", price(0, 1, 1) with two goods throws", thrownBy(x, y -> y.price(0, 1, 1)), "nothing");
        due(where + ", price(0, 2, 1) with two goods throws", thrownBy(x, y -> y.price(0, 2, 1)), INDEX);
        due(where + ", amount(0, 1, 11) with two goods throws", thrownBy(x, y -> y.amount(0, 1, 11)), "nothing");
        due(where + ", fits() against 11", x.fits(), false);
        due(where + ", amount(0, 1, 12) with two goods throws", thrownBy(x, y -> y.amount(0, 1, 12)), "nothing");
        due(where + ", fits() against 12", x.fits(), true);
    }

    private static void goodsNumber() {
        for (Sample sample : ALL) {
            for (int n : new int[] {0, 7, -1, 8, LEAST, GREATEST}) {
                refused(sample, ARGUMENT, "goods(" + n + ")", x -> x.goods(n));
            }
        }
    }

    private static void dayOfFullRecord() {
        refused(FULL, STATE, "day()", x -> x.day());
    }

    private static void priceIndex() {
        for (Sample sample : ALL) {
            for (int day : sample.noDays()) {
                refused(sample, INDEX, "price(" + day + ", 0, 50)", x -> x.price(day, 0, 50));
            }
        }
        for (Sample sample : WITH_DAYS) {
            for (int good : NO_GOOD) {
                refused(sample, INDEX, "price(0, " + good + ", 50)", x -> x.price(0, good, 50));
                refused(sample, INDEX, "price(last, " + good + ", 50)", x -> x.price(sample.days() - 1, good, 50));
            }
        }
    }

    private static void priceValue() {
        for (Sample sample : WITH_DAYS) {
            for (int v : NO_PRICE) {
                refused(sample, ARGUMENT, "price(0, 0, " + v + ")", x -> x.price(0, 0, v));
                refused(sample, ARGUMENT, "price(last, 1, " + v + ")", x -> x.price(sample.days() - 1, 1, v));
            }
        }
    }

    private static void amountIndex() {
        for (Sample sample : ALL) {
            for (int day : sample.noDays()) {
                refused(sample, INDEX, "amount(" + day + ", 0, 50)", x -> x.amount(day, 0, 50));
            }
        }
        for (Sample sample : WITH_DAYS) {
            for (int good : NO_GOOD) {
                refused(sample, INDEX, "amount(0, " + good + ", 50)", x -> x.amount(0, good, 50));
                refused(sample, INDEX, "amount(last, " + good + ", 50)", x -> x.amount(sample.days() - 1, good, 50));
            }
        }
    }

    private static void amountValue() {
        for (Sample sample : WITH_DAYS) {
            for (int v : NO_AMOUNT) {
                refused(sample, ARGUMENT, "amount(0, 0, " + v + ")", x -> x.amount(0, 0, v));
                refused(sample, ARGUMENT, "amount(last, 1, " + v + ")", x -> x.amount(sample.days() - 1, 1, v));
            }
        }
    }

    private static void removeIndex() {
        for (Sample sample : ALL) {
            for (int day : sample.noDays()) {
                refused(sample, INDEX, "remove(" + day + ")", x -> x.remove(day));
            }
        }
    }

    private interface OfTwoDays {
        int answer(WishLedger x, int s, int t);
    }

    private static void indexOfTwoDays(String name, OfTwoDays call) {
        for (Sample sample : ALL) {
            for (int day : sample.noDays()) {
                refused(sample, INDEX, name + "(" + day + ", 0)", x -> call.answer(x, day, 0));
                refused(sample, INDEX, name + "(0, " + day + ")", x -> call.answer(x, 0, day));
                refused(sample, INDEX, name + "(" + day + ", " + day + ")", x -> call.answer(x, day, day));
            }
        }
    }

    private static void sensibleWhat() {
        for (Sample sample : ALL) {
            for (int what : NO_WHAT) {
                refused(sample, ARGUMENT, "sensible(" + what + ")", x -> x.sensible(what));
            }
        }
    }

    private static void circleWithoutOne() {
        for (Sample sample : new Sample[] {EMPTY, SENSIBLE}) {
            for (int i : new int[] {-1, 0, 1, 11, 12, -2, LEAST, GREATEST}) {
                refused(sample, STATE, "circle(" + i + ")", x -> x.circle(i));
            }
        }
    }

    private static void circleIndex() {
        for (Sample sample : new Sample[] {AT_ODDS, FULL}) {
            for (int i : new int[] {2, -2, 3, 11, 12, LEAST, GREATEST}) {
                refused(sample, INDEX, "circle(" + i + ")", x -> x.circle(i));
            }
        }
    }

    private static void passesUp() {
        int[][] fractions = {{0, 1}, {2, 1}, {0, 5}, {6, 5}, {-1, 5}, {0, 1000000}, {1000001, 1000000}, {LEAST, 5},
            {GREATEST, 5}, {LEAST, 1000000}, {GREATEST, 1000000}};
        dueFractionsRefused(fractions);
    }

    private static void passesDown() {
        int[][] fractions = {{1, 0}, {0, 0}, {-1, 0}, {1, -1}, {-1, -1}, {-2, -1}, {1, 1000001}, {1000000, 1000001},
            {1000001, 1000001}, {1, LEAST}, {LEAST, LEAST}, {1, GREATEST}, {GREATEST, GREATEST}};
        dueFractionsRefused(fractions);
    }

    private static void dueFractionsRefused(int[][] fractions) {
        for (Sample sample : ALL) {
            for (int[] e : fractions) {
                refused(sample, ARGUMENT, "passes(" + e[0] + ", " + e[1] + ")", x -> x.passes(e[0], e[1]));
            }
        }
    }

    private static void shrinkageWhat() {
        for (Sample sample : ALL) {
            for (int what : NO_WHAT) {
                refused(sample, ARGUMENT, "shrinkage(" + what + ")", x -> x.shrinkage(what));
            }
        }
    }

    private static void dropIndex() {
        for (Sample sample : ALL) {
            int count = sample == AT_ODDS || sample == FULL ? 1 : 0;
            for (int i : new int[] {count, count + 1, -2, 11, 12, LEAST, GREATEST}) {
                refused(sample, INDEX, "drop(" + i + ")", x -> x.drop(i));
            }
        }
    }

    private static void offerIndex() {
        for (Sample sample : ALL) {
            for (int good : NO_GOOD) {
                refused(sample, INDEX, "offer(" + good + ", 50, 60)", x -> x.offer(good, 50, 60));
            }
        }
    }

    private static void offerValues() {
        for (Sample sample : ALL) {
            for (int good = 0; good < 2; good++) {
                dueOfferRefused(sample, good);
            }
        }
    }

    /** The value that is right must not be taken either, whichever of the two it is. */
    private static void dueOfferRefused(Sample sample, int good) {
        for (int price : NO_PRICE) {
            refused(sample, ARGUMENT, "offer(" + good + ", " + price + ", 60)", x -> x.offer(good, price, 60));
            refused(sample, ARGUMENT, "offer(" + good + ", " + price + ", -1)", x -> x.offer(good, price, -1));
        }
        for (int amount : NO_AMOUNT) {
            refused(sample, ARGUMENT, "offer(" + good + ", 50, " + amount + ")", x -> x.offer(good, 50, amount));
            refused(sample, ARGUMENT, "offer(" + good + ", 100, " + amount + ")", x -> x.offer(good, 100, amount));
        }
    }

    private static void orderIndex() {
        for (Sample sample : ALL) {
            for (int i : sample.noDays()) {
                refused(sample, INDEX, "order(" + i + ")", x -> x.order(i));
            }
        }
    }

    public static void main(String[] args) {
        test("goods: IllegalArgumentException, when n is not 1 .. 6.", RefusalTests::goodsNumber);
        test("day: IllegalStateException, when there are 12.", RefusalTests::dayOfFullRecord);
        test("price: IndexOutOfBoundsException, when there is no such day or good", RefusalTests::priceIndex);
        test("price: IllegalArgumentException, when v is not 1 .. 99.", RefusalTests::priceValue);
        test("amount: IndexOutOfBoundsException likewise", RefusalTests::amountIndex);
        test("amount: IllegalArgumentException, when v is not 0 .. 99.", RefusalTests::amountValue);
        test("remove: IndexOutOfBoundsException, when there is none such.", RefusalTests::removeIndex);
        test("cost: IndexOutOfBoundsException, when there is no such day.", () -> indexOfTwoDays("cost", WishLedger::cost));
        test("shown: IndexOutOfBoundsException likewise.", () -> indexOfTwoDays("shown", WishLedger::shown));
        test("chain: IndexOutOfBoundsException likewise.", () -> indexOfTwoDays("chain", WishLedger::chain));
        test("sensible: IllegalArgumentException, for another what.", RefusalTests::sensibleWhat);
        test("circle: IllegalStateException, when there is no circle", RefusalTests::circleWithoutOne);
        test("circle: IndexOutOfBoundsException, when it has no such day.", RefusalTests::circleIndex);
        test("passes: IllegalArgumentException, when up is not 1 .. down", RefusalTests::passesUp);
        test("passes: IllegalArgumentException, when .. down not 1 .. 1000000.", RefusalTests::passesDown);
        test("shrinkage: IllegalArgumentException, for another what.", RefusalTests::shrinkageWhat);
        test("drop: IndexOutOfBoundsException, when there is none such.", RefusalTests::dropIndex);
        test("offer: IndexOutOfBoundsException, when there is no such good", RefusalTests::offerIndex);
        test("offer: IllegalArgumentException, when they are not as of days.", RefusalTests::offerValues);
        test("order: IndexOutOfBoundsException, when there is no such place.", RefusalTests::orderIndex);
        System.out.println(tests + " sentences, " + refusals + " refused calls, " + wrong + " wrong");
        if (wrong != 0) {
            System.exit(1);
        }
    }
}
