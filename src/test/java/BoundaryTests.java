/**
 * For each sentence of the document that names a boundary case which is not a refusal: a test of its own, in the
 * document's order. The refused calls are in RefusalTests.
 */
public final class BoundaryTests {
    private static final String INDEX = "IndexOutOfBoundsException";
    private static final String STATE = "IllegalStateException";

    private static final int[] NOTHING = {};
    private static final int[][] NO_TIES = {{}, {}, {}, {}, {}, {}};

    private static String sentence = "";
    private static int tests = 0;
    private static int checks = 0;
    private static int wrong = 0;

    private static void test(String quoted, Runnable body) {
        sentence = quoted;
        tests++;
        int before = checks;
        try {
            body.run();
            due("a test without a check", checks > before, true);
        } catch (RuntimeException e) {
            wrong++;
            System.out.println("[" + quoted + "] ended by " + e);
        }
    }

    private static void due(String what, Object got, Object want) {
        checks++;
        if (!got.equals(want)) {
            wrong++;
            System.out.println("[" + sentence + "] " + what + ": " + got + ", due is " + want);
        }
    }

    private static void dueThrows(String what, String exception, Runnable call) {
        String got = "nothing";
        try {
            call.run();
        } catch (RuntimeException e) {
            got = e.getClass().getSimpleName();
        }
        due(what + " throws", got, exception);
    }

    // ---------------------------------------------------------------------------------------------- records

    /** A record: rows of prices, rows of amounts. */
    private static WishLedger ledger(int[][] prices, int[][] amounts) {
        WishLedger x = new WishLedger();
        x.goods(prices[0].length);
        for (int day = 0; day < prices.length; day++) {
            addDay(x, prices[day], amounts[day]);
        }
        return x;
    }

    private static void addDay(WishLedger x, int[] prices, int[] amounts) {
        int day = x.day();
        for (int good = 0; good < prices.length; good++) {
            x.price(day, good, prices[good]);
            x.amount(day, good, amounts[good]);
        }
    }

    private static void offerAll(WishLedger x, int[] prices, int[] amounts) {
        for (int good = 0; good < prices.length; good++) {
            x.offer(good, prices[good], amounts[good]);
        }
    }

    /** Days of one good at price 1 that buy the given amounts. */
    private static WishLedger amountsOfOneGood(int... amounts) {
        WishLedger x = new WishLedger();
        for (int amount : amounts) {
            addDay(x, new int[] {1}, new int[] {amount});
        }
        return x;
    }

    /** Two days in conflict, (1, 2) bought at (1, 2) and (2, 1) at (2, 1), and (2, 2) at (1, 1), above both. */
    private static WishLedger twoAtOdds() {
        return ledger(new int[][] {{1, 2}, {2, 1}, {1, 1}}, new int[][] {{1, 2}, {2, 1}, {2, 2}});
    }

    /**
     * Each of the days 0 .. n - 1 buys one piece of the good of its own number, at price 10; the good of each day in
     * shows[s] costs it 9 (s is shown better), in ties[s] 10 (as good), each other good 11.
     */
    private static WishLedger singles(int n, int[][] shows, int[][] ties) {
        int[][] prices = new int[n][n];
        int[][] amounts = new int[n][n];
        for (int s = 0; s < n; s++) {
            for (int t = 0; t < n; t++) {
                prices[s][t] = s == t ? 10 : 11;
            }
            for (int t : shows[s]) {
                prices[s][t] = 9;
            }
            for (int t : ties[s]) {
                prices[s][t] = 10;
            }
            amounts[s][s] = 1;
        }
        return ledger(prices, amounts);
    }

    /** Two days that spent 10 each; the other one's bundle costs them so much. */
    private static WishLedger pair(int costForFirst, int costForSecond) {
        return ledger(new int[][] {{10, costForFirst}, {costForSecond, 10}}, new int[][] {{1, 0}, {0, 1}});
    }

    /** Twelve days of two goods, each of them shown better than each other one. */
    private static WishLedger allAtOdds() {
        int[][] prices = new int[12][];
        int[][] amounts = new int[12][];
        int[] x = {0, 6, 11, 15, 18, 20, 21, 22, 23, 24, 25, 26};
        int[] y = {26, 25, 24, 23, 22, 21, 20, 18, 15, 11, 6, 0};
        int[][] normals = {{2, 13}, {2, 11}, {2, 9}, {2, 7}, {2, 5}, {2, 3}, {3, 2}, {5, 2}, {7, 2}, {9, 2}, {11, 2}, {13, 2}};
        for (int day = 0; day < 12; day++) {
            prices[day] = normals[day];
            amounts[day] = new int[] {x[day], y[day]};
        }
        return ledger(prices, amounts);
    }

    private static final int[][] TWELVE_EDGES = {{1, 0}, {2, 1}, {1, 1}, {1, 2}, {0, 1}, {-1, 1}, {-1, 0}, {-2, -1},
        {-1, -1}, {-1, -2}, {0, -1}, {1, -1}};
    private static final int[][] THIRTEEN_EDGES = {{1, 0}, {2, 1}, {1, 1}, {1, 2}, {0, 1}, {-3, 3}, {-1, 0}, {-2, -1},
        {-1, -1}, {-1, -2}, {0, -1}, {1, -2}, {2, -1}};

    /**
     * Prices and bundles of days whose bundles are the corners of a polygon in the plane of three goods: the prices of
     * each day put its own corner and the next one at the same cost, or, on the day that is tilted, the next one below
     * it, and all others above.
     */
    private static int[][][] polygon(int[][] edges, int tilted) {
        int[][][] pricesAndAmounts = new int[2][edges.length][];
        int x = 20;
        int y = 20;
        for (int day = 0; day < edges.length; day++) {
            int dx = edges[day][0];
            int dy = edges[day][1];
            int tilt = day == tilted ? 1 : 0;
            pricesAndAmounts[0][day] = new int[] {50 - 10 * dy - tilt * dx, 50 + 10 * dx - tilt * dy, 50};
            pricesAndAmounts[1][day] = new int[] {x, y, 99 - x - y};
            x += dx;
            y += dy;
        }
        return pricesAndAmounts;
    }

    /** Twelve days in one ring, 0, 1, 2 and so on, with one better step, or none if tilted is none of them. */
    private static WishLedger ringOfTwelve(int tilted) {
        int[][][] days = polygon(TWELVE_EDGES, tilted);
        return ledger(days[0], days[1]);
    }

    /** Twelve days of six goods without two equal numbers of one kind. */
    private static WishLedger filled() {
        WishLedger x = new WishLedger();
        x.goods(6);
        for (int day = 0; day < 12; day++) {
            x.day();
            for (int good = 0; good < 6; good++) {
                x.price(day, good, filledPrice(day, good));
                x.amount(day, good, filledAmount(day, good));
            }
        }
        return x;
    }

    private static int filledPrice(int day, int good) {
        return 1 + day * 6 + good;
    }

    private static int filledAmount(int day, int good) {
        return 99 - day * 6 - good;
    }

    /** Day of the object is what day was of the filled record. */
    private static void dueFilledDay(WishLedger x, int day, int was) {
        for (int good = 0; good < 6; good++) {
            int price = filledPrice(was, good);
            int amount = filledAmount(was, good);
            due("price of good " + good + " on day " + day, x.price(day, good, price), price);
            due("amount of good " + good + " on day " + day, x.amount(day, good, amount), amount);
        }
    }

    private static void dueNewDay(WishLedger x, int day, int goods) {
        for (int good = 0; good < goods; good++) {
            due("price of good " + good + " on the new day " + day, x.price(day, good, 1), 1);
            due("amount of good " + good + " on the new day " + day, x.amount(day, good, 0), 0);
        }
    }

    private static void dueCircle(String name, WishLedger x, int... days) {
        due(name + ": circle(NONE)", x.circle(WishLedger.NONE), days.length);
        for (int i = 0; i < days.length; i++) {
            due(name + ": circle(" + i + ")", x.circle(i), days[i]);
        }
        dueThrows(name + ": circle(" + days.length + ")", INDEX, () -> x.circle(days.length));
    }

    private static void dueNoCircle(String name, WishLedger x) {
        dueThrows(name + ": circle(NONE)", STATE, () -> x.circle(WishLedger.NONE));
        dueThrows(name + ": circle(0)", STATE, () -> x.circle(0));
    }

    private static void dueDrop(String name, WishLedger x, int... days) {
        due(name + ": drop(NONE)", x.drop(WishLedger.NONE), days.length);
        for (int i = 0; i < days.length; i++) {
            due(name + ": drop(" + i + ")", x.drop(i), days[i]);
        }
        dueThrows(name + ": drop(" + days.length + ")", INDEX, () -> x.drop(days.length));
    }

    private static void dueOrder(String name, WishLedger x, int... days) {
        for (int i = 0; i < days.length; i++) {
            due(name + ": order(" + i + ")", x.order(i), days[i]);
        }
        dueThrows(name + ": order(" + days.length + ")", INDEX, () -> x.order(days.length));
    }

    private static void dueShrinkage(String name, WishLedger x, int up, int down) {
        due(name + ": shrinkage(0)", x.shrinkage(0), up);
        due(name + ": shrinkage(1)", x.shrinkage(1), down);
    }

    private static final int[] RISING = {0, 1, 2, 3, 4, 5, 6, 7, 8, 9, 10, 11};

    // ---------------------------------------------------------------------------------------------- use and terms

    private static void the512thCall() {
        WishLedger x = twoAtOdds();
        int calls = 1 + 3 * 5;
        while (calls < 509) {
            x.circle(calls % 2);
            calls++;
        }
        due("call 510, circle(1)", x.circle(1), 1);
        due("call 511, price(2, 1, 99)", x.price(2, 1, 99), 1);
        due("call 512, cost(2, 2)", x.cost(2, 2), 200);
    }

    private static void noneIsMinusOne() {
        due("NONE", WishLedger.NONE, -1);
    }

    private static void goodsAtEachNumber() {
        for (int n = 1; n <= 6; n++) {
            WishLedger x = new WishLedger();
            x.goods(n);
            x.day();
            dueGoods(x, n);
        }
    }

    private static void dueGoods(WishLedger x, int n) {
        for (int good = 0; good < n; good++) {
            int at = good;
            due(n + " goods: price(0, " + good + ", 7)", x.price(0, good, 7), 1);
            due(n + " goods: amount(0, " + good + ", 7)", x.amount(0, good, 7), 0);
            dueThrows(n + " goods: offer(" + good + ", 7, 7)", "nothing", () -> x.offer(at, 7, 7));
        }
        for (int bad : new int[] {-1, n}) {
            dueThrows(n + " goods: price(0, " + bad + ", 7)", INDEX, () -> x.price(0, bad, 7));
            dueThrows(n + " goods: amount(0, " + bad + ", 7)", INDEX, () -> x.amount(0, bad, 7));
            dueThrows(n + " goods: offer(" + bad + ", 7, 7)", INDEX, () -> x.offer(bad, 7, 7));
        }
        due(n + " goods: cost(0, 0)", x.cost(0, 0), 49 * n);
    }

    private static void oneGoodAtFirst() {
        WishLedger x = new WishLedger();
        x.day();
        dueGoods(x, 1);
    }

    private static void daysAtEachNumber() {
        WishLedger x = new WishLedger();
        for (int m = 0; m < 12; m++) {
            int beyond = m;
            dueThrows(m + " days: price(" + m + ", 0, 5)", INDEX, () -> x.price(beyond, 0, 5));
            dueThrows(m + " days: amount(" + m + ", 0, 5)", INDEX, () -> x.amount(beyond, 0, 5));
            dueThrows(m + " days: remove(" + m + ")", INDEX, () -> x.remove(beyond));
            dueThrows(m + " days: cost(" + m + ", " + m + ")", INDEX, () -> x.cost(beyond, beyond));
            dueThrows(m + " days: shown(" + m + ", " + m + ")", INDEX, () -> x.shown(beyond, beyond));
            dueThrows(m + " days: chain(" + m + ", " + m + ")", INDEX, () -> x.chain(beyond, beyond));
            dueThrows(m + " days: order(" + m + ")", INDEX, () -> x.order(beyond));
            due(m + " days: day()", x.day(), m);
            due("price(" + m + ", 0, 5)", x.price(m, 0, 5), 1);
            due("amount(" + m + ", 0, 5)", x.amount(m, 0, 5), 0);
            due("cost(0, " + m + ")", x.cost(0, m), 25);
            due("shown(" + m + ", 0)", x.shown(m, 0), 1);
            due("chain(" + m + ", 0)", x.chain(m, 0), 1);
            due("order(" + m + ")", x.order(m), m);
        }
        dueThrows("a day() more", STATE, x::day);
        due("size()", x.size(), 12);
    }

    private static void removeFirstOfFull() {
        dueMovedUp(0);
    }

    private static void removeBetweenOfFull() {
        dueMovedUp(1);
        dueMovedUp(5);
        dueMovedUp(10);
    }

    private static void removeLastOfFull() {
        dueMovedUp(11);
    }

    private static void dueMovedUp(int removed) {
        WishLedger x = filled();
        x.remove(removed);
        due("size() behind remove(" + removed + ")", x.size(), 11);
        for (int day = 0; day < 11; day++) {
            dueFilledDay(x, day, day < removed ? day : day + 1);
        }
        dueThrows("cost(11, 11) behind remove(" + removed + ")", INDEX, () -> x.cost(11, 11));
        due("day() behind remove(" + removed + ")", x.day(), 11);
        dueNewDay(x, 11, 6);
    }

    private static void removeFirstUntilEmpty() {
        WishLedger x = amountsOfOneGood(11, 22, 33, 44, 55, 66, 77, 88, 99, 1, 2, 3);
        int[] spent = {11, 22, 33, 44, 55, 66, 77, 88, 99, 1, 2, 3};
        for (int day = 0; day < 12; day++) {
            due("first day behind " + day + " removals", x.cost(0, 0), spent[day]);
            due("last day behind " + day + " removals", x.cost(11 - day, 11 - day), 3);
            x.remove(0);
            due("size() behind the removal", x.size(), 11 - day);
        }
        dueThrows("remove(0) of an empty record", INDEX, () -> x.remove(0));
        due("day() of an emptied record", x.day(), 0);
        dueNewDay(x, 0, 1);
    }

    private static void removeLastUntilEmpty() {
        WishLedger x = amountsOfOneGood(5, 6, 7);
        x.remove(2);
        due("cost(1, 1)", x.cost(1, 1), 6);
        x.remove(1);
        due("cost(0, 0)", x.cost(0, 0), 5);
        x.remove(0);
        due("size()", x.size(), 0);
        due("sensible(0)", x.sensible(0), true);
    }

    private static void removedNumbersMoveEverywhere() {
        WishLedger x = singles(5, new int[][] {{}, {}, {1}, {2}, {3}}, new int[][] {{}, {3}, {}, {}, {}});
        dueCircle("before", x, 1, 3, 2);
        dueDrop("before", x, 1);
        dueOrder("before", x, 0, 4, 1, 2, 3);
        due("before: chain(4, 1)", x.chain(4, 1), 3);
        x.remove(0);
        dueCircle("behind remove(0)", x, 0, 2, 1);
        dueDrop("behind remove(0)", x, 0);
        dueOrder("behind remove(0)", x, 3, 0, 1, 2);
        due("behind remove(0): chain(3, 0)", x.chain(3, 0), 3);
        x.remove(1);
        dueNoCircle("without a day of the circle", x);
        dueDrop("without a day of the circle", x);
        dueOrder("without a day of the circle", x, 0, 2, 1);
        due("without a day of the chain: chain(2, 0)", x.chain(2, 0), WishLedger.NONE);
    }

    private static void eachDayAndGoodHasItsOwn() {
        WishLedger x = filled();
        for (int day = 0; day < 12; day++) {
            dueFilledDay(x, day, day);
        }
    }

    private static void costLeastAndGreatest() {
        int[] full = {99, 99, 99, 99, 99, 99};
        int[] ones = {1, 1, 1, 1, 1, 1};
        WishLedger x = ledger(new int[][] {full, ones}, new int[][] {full, new int[6]});
        due("cost(0, 0), all numbers the greatest", x.cost(0, 0), 58806);
        due("cost(0, 1), of nothing", x.cost(0, 1), 0);
        due("cost(1, 0), all prices the least", x.cost(1, 0), 594);
        due("cost(1, 1), nothing spent", x.cost(1, 1), 0);
        WishLedger y = ledger(new int[][] {{2, 3}, {5, 7}}, new int[][] {{11, 13}, {17, 19}});
        due("cost(0, 1)", y.cost(0, 1), 2 * 17 + 3 * 19);
        due("cost(1, 0)", y.cost(1, 0), 5 * 11 + 7 * 13);
    }

    private static void costOfTheGoodsThereAre() {
        WishLedger x = filled();
        x.goods(1);
        x.day();
        x.amount(0, 0, 99);
        due("cost(0, 0) behind goods(1)", x.cost(0, 0), 99);
    }

    private static void shownAtTheSameCost() {
        WishLedger x = ledger(new int[][] {{1, 1}, {99, 99}}, new int[][] {{5, 5}, {0, 10}});
        due("shown(0, 1), 10 of 10", x.shown(0, 1), 1);
        x.amount(1, 1, 11);
        due("shown(0, 1), 11 of 10", x.shown(0, 1), 0);
        x.amount(1, 1, 9);
        due("shown(0, 1), 9 of 10", x.shown(0, 1), 2);
        x.amount(1, 1, 0);
        due("shown(0, 1), 0 of 10", x.shown(0, 1), 2);
        due("shown(0, 0)", x.shown(0, 0), 1);
    }

    private static void shownWithNothingSpent() {
        WishLedger x = ledger(new int[][] {{1, 99}, {99, 1}, {99, 99}}, new int[][] {{0, 0}, {0, 0}, {1, 0}});
        due("shown(0, 0)", x.shown(0, 0), 1);
        due("shown(0, 1)", x.shown(0, 1), 1);
        due("shown(1, 0)", x.shown(1, 0), 1);
        due("shown(0, 2)", x.shown(0, 2), 0);
        due("shown(2, 0)", x.shown(2, 0), 2);
        due("chain(1, 0)", x.chain(1, 0), 1);
        due("chain(0, 2)", x.chain(0, 2), WishLedger.NONE);
    }

    private static void oneStepIsAChain() {
        WishLedger x = amountsOfOneGood(3, 3, 2);
        due("chain(0, 1), as good", x.chain(0, 1), 1);
        due("chain(1, 2), better", x.chain(1, 2), 1);
        due("chain(2, 1), not shown", x.chain(2, 1), WishLedger.NONE);
        due("sensible(0): day 0 as good as 1, 1 as 0, none better", x.sensible(0), true);
        dueNoCircle("none better", x);
    }

    private static void sensibleByALongChain() {
        for (int tilted = 0; tilted < 12; tilted++) {
            WishLedger x = ringOfTwelve(tilted);
            due("sensible(0), day " + tilted + " better than the next", x.sensible(0), false);
            due("sensible(1), day " + tilted + " better than the next", x.sensible(1), true);
            x.remove((tilted + 6) % 12);
            due("sensible(0) without a day of the ring", x.sensible(0), true);
        }
        due("sensible(0), all of twelve as good", ringOfTwelve(-1).sensible(0), true);
    }

    private static void sensibleByEachChainLength() {
        for (int n = 2; n <= 6; n++) {
            int[][] shows = new int[n][];
            int[][] ties = new int[n][];
            for (int day = 0; day < n; day++) {
                shows[day] = day == n - 1 ? new int[] {0} : NOTHING;
                ties[day] = day == n - 1 ? NOTHING : new int[] {day + 1};
            }
            WishLedger x = singles(n, shows, ties);
            due("sensible(0) of a ring of " + n, x.sensible(0), false);
            x.price(n - 1, 0, 11);
            due("sensible(0) of a row of " + n, x.sensible(0), true);
        }
    }

    private static void circleNeedsOneBetter() {
        dueNoCircle("two as good", pair(10, 10));
        dueCircle("the first is better", pair(9, 10), 0, 1);
        dueCircle("the last is better", pair(10, 9), 0, 1);
        dueCircle("both are better", pair(9, 9), 0, 1);
        dueNoCircle("twelve as good", ringOfTwelve(-1));
        dueNoCircle("one way only", pair(9, 11));
    }

    private static void circleGoesBackToTheFirst() {
        for (int tilted = 0; tilted < 12; tilted++) {
            dueCircle("day " + tilted + " better than the next", ringOfTwelve(tilted), RISING);
        }
    }

    private static void shrunkAtTheSameCost() {
        due("passes(9, 10), both cost the same", pair(9, 9).passes(9, 10), true);
        due("passes(9, 10), one costs less", pair(9, 8).passes(9, 10), false);
        due("passes(9, 10), the other one costs less", pair(8, 9).passes(9, 10), false);
        due("passes(9, 10), one costs more", pair(9, 10).passes(9, 10), true);
        due("passes(899999, 1000000), one costs less", pair(9, 8).passes(899999, 1000000), true);
        due("passes(900001, 1000000), both cost the same", pair(9, 9).passes(900001, 1000000), false);
    }

    private static void shrunkByOneIsTheRecordItself() {
        WishLedger[] all = {new WishLedger(), pair(9, 9), pair(9, 10), pair(10, 10), pair(9, 11), twoAtOdds(), allAtOdds(),
            ringOfTwelve(-1), ringOfTwelve(7), amountsOfOneGood(0, 0, 1)};
        for (int i = 0; i < all.length; i++) {
            due("passes(1, 1) of record " + i, all[i].passes(1, 1), all[i].sensible(0));
            due("passes(1000000, 1000000) of record " + i, all[i].passes(1000000, 1000000), all[i].sensible(0));
        }
    }

    private static void shrunkDayIsAsGoodAsItself() {
        for (int[] e : new int[][] {{1, 1}, {1, 2}, {1, 1000000}, {999999, 1000000}}) {
            due("passes of one day", amountsOfOneGood(99).passes(e[0], e[1]), true);
            due("passes of one day, nothing spent", amountsOfOneGood(0).passes(e[0], e[1]), true);
            due("passes of two days, nothing spent", amountsOfOneGood(0, 0).passes(e[0], e[1]), true);
            due("passes of equal days", amountsOfOneGood(7, 7).passes(e[0], e[1]), true);
            due("passes of nothing and something", amountsOfOneGood(0, 7, 0).passes(e[0], e[1]), true);
        }
    }

    private static void shrinkageThatPasses() {
        WishLedger x = pair(9, 9);
        dueShrinkage("both at 9 of 10", x, 9, 10);
        due("passes(9, 10)", x.passes(9, 10), true);
        due("passes(900001, 1000000)", x.passes(900001, 1000000), false);
    }

    private static void shrinkageThatFails() {
        WishLedger x = pair(9, 8);
        dueShrinkage("9 and 8 of 10", x, 9, 10);
        due("passes(9, 10)", x.passes(9, 10), false);
        due("passes(899999, 1000000)", x.passes(899999, 1000000), true);
    }

    private static void shrinkageOfOne() {
        dueShrinkage("an empty record", new WishLedger(), 1, 1);
        dueShrinkage("one day", amountsOfOneGood(5), 1, 1);
        dueShrinkage("one day, nothing spent", amountsOfOneGood(0), 1, 1);
        dueShrinkage("days, nothing spent", amountsOfOneGood(0, 0, 0), 1, 1);
        dueShrinkage("nothing and something", amountsOfOneGood(0, 99, 0), 1, 1);
        dueShrinkage("sensible", pair(9, 11), 1, 1);
        dueShrinkage("all as good", pair(10, 10), 1, 1);
        dueShrinkage("twelve as good", ringOfTwelve(-1), 1, 1);
        dueShrinkage("not sensible, but at 1 alone", pair(9, 10), 1, 1);
        dueShrinkage("twelve, not sensible, but at 1 alone", ringOfTwelve(4), 1, 1);
        due("not sensible, but at 1 alone: sensible(0)", pair(9, 10).sensible(0), false);
        due("not sensible, but at 1 alone: passes(999999, 1000000)", pair(9, 10).passes(999999, 1000000), true);
    }

    private static void shrinkageLeast() {
        WishLedger x = ledger(new int[][] {{99, 1}, {1, 99}}, new int[][] {{99, 0}, {0, 99}});
        dueShrinkage("the least", x, 1, 99);
        due("passes(1, 99)", x.passes(1, 99), true);
        due("passes(10101, 1000000)", x.passes(10101, 1000000), true);
        due("passes(10102, 1000000)", x.passes(10102, 1000000), false);
    }

    private static void shrinkageNextToOne() {
        int[][] prices = {{99, 99, 99, 99, 99, 98}, {99, 99, 99, 99, 98, 99}};
        int[][] amounts = {{99, 99, 99, 99, 99, 98}, {99, 99, 99, 99, 98, 99}};
        WishLedger x = ledger(prices, amounts);
        dueShrinkage("great numbers", x, 58608, 58609);
        due("passes(58608, 58609)", x.passes(58608, 58609), true);
        due("passes(999982, 1000000)", x.passes(999982, 1000000), true);
        due("passes(999983, 1000000)", x.passes(999983, 1000000), false);
        due("passes(1, 1)", x.passes(1, 1), false);
    }

    // ---------------------------------------------------------------------------------------------- promises 1 to 6

    private static void newObject() {
        WishLedger x = new WishLedger();
        due("size()", x.size(), 0);
        due("sensible(0)", x.sensible(0), true);
        due("sensible(1)", x.sensible(1), true);
        due("passes(1, 1)", x.passes(1, 1), true);
        due("fits()", x.fits(), true);
        dueNoCircle("a new object", x);
        dueDrop("a new object", x);
        dueOrder("a new object", x);
        dueShrinkage("a new object", x, 1, 1);
        due("day()", x.day(), 0);
        dueNewDay(x, 0, 1);
        dueThrows("price(0, 1, 1)", INDEX, () -> x.price(0, 1, 1));
    }

    private static void goodsTakesTheDaysAway() {
        for (int n : new int[] {1, 2, 6}) {
            WishLedger x = filled();
            x.goods(n);
            due("size() behind goods(" + n + ")", x.size(), 0);
            dueThrows("cost(0, 0) behind goods(" + n + ")", INDEX, () -> x.cost(0, 0));
            for (int day = 0; day < 12; day++) {
                due("day() behind goods(" + n + ")", x.day(), day);
                dueNewDay(x, day, n);
            }
        }
    }

    private static void goodsOfAnEmptyRecord() {
        WishLedger x = new WishLedger();
        x.goods(6);
        x.goods(6);
        x.goods(1);
        due("size()", x.size(), 0);
        x.day();
        dueGoods(x, 1);
    }

    private static void dayIsTheLastOne() {
        WishLedger x = new WishLedger();
        x.goods(6);
        for (int day = 0; day < 12; day++) {
            due("day()", x.day(), day);
            dueNewDay(x, day, 6);
        }
    }

    private static void dayAgainBehindRemove() {
        WishLedger x = filled();
        x.remove(11);
        x.remove(0);
        due("day()", x.day(), 10);
        dueNewDay(x, 10, 6);
        due("day() again", x.day(), 11);
        dueNewDay(x, 11, 6);
        dueThrows("a day() more", STATE, x::day);
    }

    private static void priceLeastAndGreatest() {
        WishLedger x = filled();
        for (int[] at : new int[][] {{0, 0}, {0, 5}, {11, 0}, {11, 5}}) {
            int was = filledPrice(at[0], at[1]);
            due("price(.., 99)", x.price(at[0], at[1], 99), was);
            due("price(.., 1)", x.price(at[0], at[1], 1), 99);
            due("price(.., 1) again", x.price(at[0], at[1], 1), 1);
            due("price(.., 98)", x.price(at[0], at[1], 98), 1);
            due("price(.., 2)", x.price(at[0], at[1], 2), 98);
            due("price as it was", x.price(at[0], at[1], was), 2);
        }
        for (int day = 0; day < 12; day++) {
            dueFilledDay(x, day, day);
        }
    }

    private static void amountLeastAndGreatest() {
        WishLedger x = filled();
        for (int[] at : new int[][] {{0, 0}, {0, 5}, {11, 0}, {11, 5}}) {
            int was = filledAmount(at[0], at[1]);
            due("amount(.., 99)", x.amount(at[0], at[1], 99), was);
            due("amount(.., 0)", x.amount(at[0], at[1], 0), 99);
            due("amount(.., 0) again", x.amount(at[0], at[1], 0), 0);
            due("amount(.., 98)", x.amount(at[0], at[1], 98), 0);
            due("amount(.., 1)", x.amount(at[0], at[1], 1), 98);
            due("amount as it was", x.amount(at[0], at[1], was), 1);
        }
        for (int day = 0; day < 12; day++) {
            dueFilledDay(x, day, day);
        }
    }

    private static void removeTheOnlyDay() {
        WishLedger x = amountsOfOneGood(5);
        x.remove(0);
        due("size()", x.size(), 0);
        dueOrder("an emptied record", x);
        dueThrows("cost(0, 0)", INDEX, () -> x.cost(0, 0));
        dueThrows("remove(0)", INDEX, () -> x.remove(0));
    }

    // ---------------------------------------------------------------------------------------------- promises 7 to 10

    private static void costOfFirstAndLastDay() {
        WishLedger x = filled();
        int sum = 0;
        for (int good = 0; good < 6; good++) {
            sum += filledPrice(11, good) * filledAmount(0, good);
        }
        due("cost(11, 0)", x.cost(11, 0), sum);
        sum = 0;
        for (int good = 0; good < 6; good++) {
            sum += filledPrice(0, good) * filledAmount(11, good);
        }
        due("cost(0, 11)", x.cost(0, 11), sum);
    }

    private static void shownOfFirstAndLastDay() {
        WishLedger x = amountsOfOneGood(5, 1, 1, 1, 1, 1, 1, 1, 1, 1, 1, 6);
        due("shown(11, 0)", x.shown(11, 0), 2);
        due("shown(0, 11)", x.shown(0, 11), 0);
        x.amount(11, 0, 5);
        due("shown(11, 0), the same", x.shown(11, 0), 1);
        due("shown(0, 11), the same", x.shown(0, 11), 1);
    }

    private static void chainToItself() {
        due("chain(0, 0) of one day", amountsOfOneGood(5).chain(0, 0), 1);
        due("chain(0, 0), nothing spent", amountsOfOneGood(0).chain(0, 0), 1);
        WishLedger ring = ringOfTwelve(0);
        for (int day = 0; day < 12; day++) {
            due("chain(" + day + ", " + day + ") in a ring", ring.chain(day, day), 1);
        }
    }

    private static void chainOfEachLength() {
        WishLedger ring = ringOfTwelve(-1);
        for (int s = 0; s < 12; s++) {
            for (int steps = 1; steps < 12; steps++) {
                due("chain of " + steps + " steps from " + s, ring.chain(s, (s + steps) % 12), steps);
            }
        }
    }

    private static void chainShortestOfSeveral() {
        WishLedger x = singles(5, new int[][] {{1}, {2}, {3}, {4}, {}}, NO_TIES);
        due("chain(0, 4), one way", x.chain(0, 4), 4);
        x.price(1, 4, 10);
        due("chain(0, 4), two ways", x.chain(0, 4), 2);
        x.price(0, 4, 10);
        due("chain(0, 4), three ways", x.chain(0, 4), 1);
    }

    private static void chainThatIsNot() {
        WishLedger x = singles(6, new int[][] {{}, {0}, {1}, {2}, {3}, {4}}, NO_TIES);
        due("chain(0, 5)", x.chain(0, 5), WishLedger.NONE);
        due("chain(5, 0)", x.chain(5, 0), 5);
        due("chain(0, 1)", x.chain(0, 1), WishLedger.NONE);
    }

    private static void sensibleOfFewDays() {
        for (WishLedger x : new WishLedger[] {new WishLedger(), amountsOfOneGood(5), amountsOfOneGood(0)}) {
            due("sensible(0) of " + x.size(), x.sensible(0), true);
            due("sensible(1) of " + x.size(), x.sensible(1), true);
        }
    }

    private static void sensibleOfTwoDays() {
        int[][] costs = {{9, 9}, {9, 10}, {9, 11}, {10, 9}, {10, 10}, {10, 11}, {11, 9}, {11, 10}, {11, 11}};
        boolean[] holds = {false, false, true, false, true, true, true, true, true};
        for (int i = 0; i < costs.length; i++) {
            WishLedger x = pair(costs[i][0], costs[i][1]);
            due("sensible(0) at " + costs[i][0] + ", " + costs[i][1], x.sensible(0), holds[i]);
            due("sensible(1) at " + costs[i][0] + ", " + costs[i][1], x.sensible(1), holds[i]);
        }
    }

    private static void sensibleOnlyInPairs() {
        WishLedger x = singles(3, new int[][] {{1}, {2}, {0}}, NO_TIES);
        due("sensible(0) of a ring of three", x.sensible(0), false);
        due("sensible(1) of a ring of three", x.sensible(1), true);
        due("sensible(0) of all at odds", allAtOdds().sensible(0), false);
        due("sensible(1) of all at odds", allAtOdds().sensible(1), false);
    }

    private static void sensibleOfFirstAndLastDay() {
        WishLedger x = new WishLedger();
        x.goods(2);
        addDay(x, new int[] {1, 2}, new int[] {1, 2});
        for (int day = 1; day < 11; day++) {
            x.day();
        }
        due("sensible(0) of the first eleven", x.sensible(0), true);
        addDay(x, new int[] {2, 1}, new int[] {2, 1});
        due("sensible(0), the first and the last at odds", x.sensible(0), false);
        due("sensible(1), the first and the last at odds", x.sensible(1), false);
        dueCircle("the first and the last at odds", x, 0, 11);
        dueDrop("the first and the last at odds", x, 0);
        dueShrinkage("the first and the last at odds", x, 4, 5);
    }

    // ---------------------------------------------------------------------------------------------- promises 11 to 14

    private static void circleShortestOfSeveral() {
        int[][] shows = {{1}, {}, {}, {}, {5}, {}};
        int[][] ties = {{}, {2}, {3}, {0}, {}, {4}};
        dueCircle("four days before two", singles(6, shows, ties), 4, 5);
        dueCircle("all at odds", allAtOdds(), 0, 1);
        dueCircle("a shortcut", singles(4, new int[][] {{1}, {}, {}, {}}, new int[][] {{}, {2, 3}, {3}, {0}}), 0, 1, 3);
    }

    private static void circleLeastAsAList() {
        int[][] twoPairs = {{5}, {4}, {}, {}, {1}, {0}};
        dueCircle("the first days differ", singles(6, twoPairs, NO_TIES), 0, 5);
        int[][] star = {{}, {}, {3, 4, 5}, {2}, {2}, {2}};
        dueCircle("the second days differ", singles(6, star, NO_TIES), 2, 3);
        dueCircle("the last days differ", singles(4, new int[][] {{1}, {}, {}, {}}, new int[][] {{}, {2, 3}, {0}, {0}}), 0, 1, 2);
        dueCircle("a ring that runs down", singles(3, new int[][] {{2}, {0}, {1}}, NO_TIES), 0, 2, 1);
        dueCircle("a pair of the last two days", singles(6, new int[][] {{}, {}, {}, {}, {5}, {4}}, NO_TIES), 4, 5);
    }

    private static void circleLeastHasABetterStep() {
        dueCircle("0 and 1 are as good", singles(3, new int[][] {{}, {}, {0}}, new int[][] {{1, 2}, {0}, {}}), 0, 2);
        int[][] lastBetter = {{1, 3}, {2}, {}, {2}};
        dueCircle("the better step is the last one", singles(4, new int[][] {{}, {}, {0}, {0}}, lastBetter), 0, 3);
        int[][] byTwo = {{1, 2}, {3}, {}, {0}};
        dueCircle("only by way of 2", singles(4, new int[][] {{}, {}, {3}, {}}, byTwo), 0, 2, 3);
        int[][] byOne = {{1}, {2}, {0}, {0}};
        dueCircle("only by way of 1 and 3", singles(4, new int[][] {{}, {3}, {}, {}}, byOne), 0, 1, 3);
        int[][] byThree = {{1}, {2, 3}, {0}, {}};
        dueCircle("only by way of 3, at the end", singles(4, new int[][] {{}, {}, {}, {0}}, byThree), 0, 1, 3);
    }

    private static void circlePlaces() {
        WishLedger x = ringOfTwelve(3);
        due("circle(NONE)", x.circle(WishLedger.NONE), 12);
        due("circle(0)", x.circle(0), 0);
        due("circle(11)", x.circle(11), 11);
        dueThrows("circle(12)", INDEX, () -> x.circle(12));
        dueThrows("circle(-2)", INDEX, () -> x.circle(-2));
    }

    private static void circleWithNothingSpent() {
        dueNoCircle("nothing spent at all", amountsOfOneGood(0, 0, 0));
        WishLedger x = ledger(new int[][] {{1, 1}, {1, 2}, {2, 1}}, new int[][] {{0, 0}, {1, 2}, {2, 1}});
        dueCircle("nothing spent on day 0", x, 1, 2);
    }

    private static void passesLeastAndGreatest() {
        WishLedger x = pair(9, 9);
        due("passes(1, 1)", x.passes(1, 1), false);
        due("passes(1, 2)", x.passes(1, 2), true);
        due("passes(2, 2)", x.passes(2, 2), false);
        due("passes(1, 1000000)", x.passes(1, 1000000), true);
        due("passes(999999, 1000000)", x.passes(999999, 1000000), false);
        due("passes(1000000, 1000000)", x.passes(1000000, 1000000), false);
        due("passes(999999, 999999)", x.passes(999999, 999999), false);
        due("passes(900000, 1000000)", x.passes(900000, 1000000), true);
        due("passes(899999, 999999)", x.passes(899999, 999999), true);
        due("passes(900000, 999999)", x.passes(900000, 999999), false);
    }

    private static void passesWithGreatNumbers() {
        int[] full = {99, 99, 99, 99, 99, 99};
        int[] less = {99, 99, 99, 99, 99, 98};
        WishLedger x = ledger(new int[][] {full, {1, 99, 99, 99, 99, 99}}, new int[][] {less, {98, 99, 99, 99, 99, 99}});
        due("passes(1000000, 1000000)", x.passes(1000000, 1000000), false);
        due("passes(999999, 1000000)", x.passes(999999, 1000000), true);
        due("passes(1, 1000000)", x.passes(1, 1000000), true);
        // In both records below one of the two products is beyond the greatest int, and would come out below the other.
        WishLedger half = ledger(new int[][] {{99, 50}, {50, 99}}, new int[][] {{99, 0}, {0, 99}});
        due("passes(100000, 1000000), each other one costs half", half.passes(100000, 1000000), true);
        WishLedger fifth = ledger(new int[][] {{50, 10}, {10, 50}}, new int[][] {{99, 0}, {0, 99}});
        due("passes(1000000, 1000000), each other one costs a fifth", fifth.passes(1000000, 1000000), false);
    }

    /** 44154 and 43164 of 49005: the greater one of the two, whose product is beyond the greatest int. */
    private static void shrinkageOfGreatNumbers() {
        int[][] prices = {{99, 99, 99, 99, 99, 50}, {40, 99, 99, 99, 99, 99}};
        int[][] amounts = {{99, 99, 99, 99, 99, 0}, {0, 99, 99, 99, 99, 99}};
        dueShrinkage("the first day decides", ledger(prices, amounts), 446, 495);
        int[][] mirrored = {{99, 99, 99, 99, 99, 40}, {50, 99, 99, 99, 99, 99}};
        dueShrinkage("the second day decides", ledger(mirrored, amounts), 446, 495);
    }

    private static void shrinkageInLowestTerms() {
        dueShrinkage("6 of 10", pair(6, 6), 3, 5);
        dueShrinkage("5 of 10", pair(5, 5), 1, 2);
        dueShrinkage("1 of 10", pair(1, 1), 1, 10);
        dueShrinkage("7 of 10", pair(1, 7), 7, 10);
        dueShrinkage("10 of 10", pair(10, 10), 1, 1);
    }

    private static void shrinkageOfSeveralCircles() {
        WishLedger x = singles(5, new int[][] {{1}, {0}, {3}, {4}, {2}}, NO_TIES);
        dueShrinkage("a pair and a ring at 9 of 10", x, 9, 10);
        x.price(2, 3, 7);
        x.price(3, 4, 6);
        x.price(4, 2, 5);
        dueShrinkage("the ring at 7 of 10", x, 7, 10);
        x.price(0, 1, 3);
        x.price(1, 0, 4);
        dueShrinkage("the pair at 4 of 10", x, 2, 5);
        dueShrinkage("all at odds, the first and the last at 52 of 338", allAtOdds(), 2, 13);
    }

    private static void dropOfASensibleRecord() {
        dueDrop("an empty record", new WishLedger());
        dueDrop("one day", amountsOfOneGood(5));
        dueDrop("twelve as good", ringOfTwelve(-1));
        dueDrop("nothing spent", amountsOfOneGood(0, 0, 0));
    }

    private static void dropFewest() {
        dueDrop("one greater day instead of three lower ones",
            singles(4, new int[][] {{3}, {3}, {3}, {0, 1, 2}}, NO_TIES), 3);
        dueDrop("all but one", allAtOdds(), 0, 1, 2, 3, 4, 5, 6, 7, 8, 9, 10);
        dueDrop("one of twelve", ringOfTwelve(8), 0);
    }

    private static void dropOfSeveral() {
        dueDrop("a pair", pair(9, 9), 0);
        dueDrop("1, 2 and not 0, 3", singles(4, new int[][] {{1, 2}, {0, 3}, {0, 3}, {1, 2}}, NO_TIES), 1, 2);
        int[][] square = {{2, 3}, {}, {0, 4}, {0, 4}, {2, 3}};
        dueDrop("2, 3 and not 0, 4", singles(5, square, NO_TIES), 2, 3);
        int[][] withFive = {{1, 2, 5}, {0, 3, 5}, {0, 3, 5}, {1, 2, 5}, {5}, {0, 1, 2, 3, 4}};
        dueDrop("5 is in both lists", singles(6, withFive, NO_TIES), 1, 2, 5);
        int[][] lowest = {{1, 2, 3}, {0, 4, 5}, {0}, {0}, {1}, {1}};
        dueDrop("two lowest days", singles(6, lowest, NO_TIES), 0, 1);
    }

    private static void dropPlaces() {
        WishLedger x = allAtOdds();
        due("drop(NONE)", x.drop(WishLedger.NONE), 11);
        due("drop(0)", x.drop(0), 0);
        due("drop(10)", x.drop(10), 10);
        dueThrows("drop(11)", INDEX, () -> x.drop(11));
        dueThrows("drop(-2)", INDEX, () -> x.drop(-2));
        due("size() behind drop()", x.size(), 12);
    }

    // ---------------------------------------------------------------------------------------------- promises 15 to 18

    /** One day with the given prices and amounts, in place of all others. */
    private static boolean fitsAgainst(WishLedger x, int[] prices, int[] amounts) {
        for (int day = x.size() - 1; day >= 0; day--) {
            x.remove(day);
        }
        addDay(x, prices, amounts);
        return x.fits();
    }

    private static WishLedger ofTwoGoods() {
        WishLedger x = new WishLedger();
        x.goods(2);
        return x;
    }

    private static final int[] ONES = {1, 1};

    private static void offerAtFirst() {
        WishLedger x = ofTwoGoods();
        due("nothing is offered", fitsAgainst(x, ONES, new int[] {99, 99}), true);
        x.offer(0, 3, 4);
        due("good 1 has price 1, amount 0: 12 against 12", fitsAgainst(x, ONES, new int[] {0, 12}), false);
        due("good 1 has price 1, amount 0: 13 against 12", fitsAgainst(x, ONES, new int[] {0, 13}), true);
        WishLedger y = ofTwoGoods();
        y.offer(1, 3, 4);
        due("good 0 has price 1, amount 0: 12 against 12", fitsAgainst(y, ONES, new int[] {12, 0}), false);
        due("good 0 has price 1, amount 0: 13 against 12", fitsAgainst(y, ONES, new int[] {13, 0}), true);
    }

    private static void offerBehindGoods() {
        WishLedger x = ofTwoGoods();
        x.offer(0, 9, 8);
        x.offer(1, 7, 6);
        due("before goods(): the same bundle", fitsAgainst(x, new int[] {1, 99}, new int[] {8, 6}), true);
        due("before goods(): 112 against 114", fitsAgainst(x, ONES, new int[] {0, 16}), false);
        x.goods(2);
        due("behind goods()", fitsAgainst(x, ONES, new int[] {0, 16}), true);
        x.offer(0, 3, 4);
        due("behind goods(), good 1 has price 1, amount 0: 12", fitsAgainst(x, ONES, new int[] {0, 12}), false);
        due("behind goods(), good 1 has price 1, amount 0: 13", fitsAgainst(x, ONES, new int[] {0, 13}), true);
    }

    private static void offerOutlivesDays() {
        WishLedger x = ofTwoGoods();
        x.offer(0, 3, 4);
        x.offer(1, 2, 5);
        for (int day = 0; day < 12; day++) {
            x.day();
        }
        dueThrows("a day() more", STATE, x::day);
        for (int day = 0; day < 12; day++) {
            x.remove(0);
        }
        due("22 against 22", fitsAgainst(x, ONES, new int[] {0, 11}), false);
        due("24 against 22", fitsAgainst(x, ONES, new int[] {0, 12}), true);
        due("size() with an offer", x.size(), 1);
        due("cost(0, 0) with an offer", x.cost(0, 0), 12);
    }

    private static void offerLeastAndGreatest() {
        WishLedger x = ofTwoGoods();
        x.offer(0, 99, 99);
        due("99 of price 99: 9801", fitsAgainst(x, new int[] {1, 99}, new int[] {98, 99}), false);
        x.offer(0, 98, 99);
        due("99 of price 98: 9702 against 9703", fitsAgainst(x, new int[] {1, 99}, new int[] {98, 99}), true);
        x.offer(0, 99, 98);
        due("98 of price 99: 9702 against 9801", fitsAgainst(x, new int[] {1, 99}, new int[] {98, 99}), true);
        x.offer(0, 1, 99);
        due("99 of price 1: 99", fitsAgainst(x, new int[] {1, 99}, new int[] {0, 99}), false);
        due("99 of price 1: 100 against 99", fitsAgainst(x, new int[] {1, 99}, new int[] {1, 99}), true);
        x.offer(0, 1, 0);
        due("0 of price 1", fitsAgainst(x, new int[] {1, 99}, new int[] {0, 99}), true);
        x.offer(1, 99, 99);
        due("0 of price 1, 99 of price 99", fitsAgainst(x, new int[] {99, 1}, new int[] {99, 98}), false);
    }

    private static void offerOfTheLastGood() {
        WishLedger x = new WishLedger();
        x.goods(6);
        x.offer(5, 3, 4);
        int[] prices = {1, 1, 1, 1, 1, 1};
        due("good 5: 12 against 12", fitsAgainst(x, prices, new int[] {12, 0, 0, 0, 0, 0}), false);
        due("good 5: 13 against 12", fitsAgainst(x, prices, new int[] {13, 0, 0, 0, 0, 0}), true);
        due("good 5: 12 of good 4 against 12", fitsAgainst(x, prices, new int[] {0, 0, 0, 0, 12, 0}), false);
        x.offer(5, 99, 0);
        due("good 5 is not bought", fitsAgainst(x, prices, new int[] {12, 0, 0, 0, 0, 0}), true);
    }

    private static void fitsAnEmptyRecord() {
        WishLedger x = ofTwoGoods();
        due("a new object", new WishLedger().fits(), true);
        x.offer(0, 99, 99);
        x.offer(1, 99, 99);
        due("a great offer", x.fits(), true);
        due("size()", x.size(), 0);
    }

    private static void fitsAtTheSameCost() {
        WishLedger x = ledger(new int[][] {{10, 10}}, new int[][] {{1, 0}});
        int[][] costs = {{10, 10}, {10, 9}, {9, 10}, {9, 9}, {10, 11}, {11, 9}};
        boolean[] holds = {true, false, false, false, true, true};
        for (int i = 0; i < costs.length; i++) {
            x.price(0, 1, costs[i][0]);
            x.offer(0, costs[i][1], 0);
            x.offer(1, 10, 1);
            due("costs of 10: " + costs[i][0] + " and " + costs[i][1], x.fits(), holds[i]);
        }
    }

    private static void fitsARecordAtOdds() {
        WishLedger x = twoAtOdds();
        due("nothing offered", x.fits(), false);
        offerAll(x, new int[] {1, 1}, new int[] {99, 99});
        due("much offered", x.fits(), false);
        x.remove(0);
        due("without one of the two", x.fits(), true);
    }

    private static void fitsAFullRecord() {
        for (int tilted = -1; tilted < 13; tilted++) {
            int[][][] days = polygon(THIRTEEN_EDGES, tilted);
            WishLedger x = new WishLedger();
            x.goods(3);
            for (int day = 0; day < 12; day++) {
                addDay(x, days[0][day], days[1][day]);
            }
            due("tilted " + tilted + ": nothing offered", x.fits(), true);
            offerAll(x, days[0][12], days[1][12]);
            due("tilted " + tilted + ": sensible(0)", x.sensible(0), true);
            due("tilted " + tilted + ": the ring is closed", x.fits(), tilted == -1);
            due("tilted " + tilted + ": sensible(0) behind it", x.sensible(0), true);
            due("tilted " + tilted + ": size()", x.size(), 12);
            dueThrows("tilted " + tilted + ": a day() more", STATE, x::day);
            dueThrows("tilted " + tilted + ": cost(12, 12)", INDEX, () -> x.cost(12, 12));
        }
    }

    private static void fitsWithNothingSpent() {
        WishLedger x = ledger(new int[][] {{5, 5}, {7, 7}}, new int[][] {{0, 0}, {1, 1}});
        due("nothing offered", x.fits(), true);
        x.offer(0, 99, 1);
        due("something offered", x.fits(), true);
    }

    private static void orderPlaces() {
        WishLedger x = allAtOdds();
        dueOrder("all at odds", x, RISING);
        dueThrows("order(NONE)", INDEX, () -> x.order(WishLedger.NONE));
        dueOrder("an empty record", new WishLedger());
        dueOrder("one day", amountsOfOneGood(0), 0);
    }

    private static void orderLowestOfTies() {
        dueOrder("twelve as good", ringOfTwelve(-1), RISING);
        dueOrder("nothing spent", amountsOfOneGood(0, 0, 0), 0, 1, 2);
        dueOrder("nothing spent on some", amountsOfOneGood(0, 3, 0, 5, 3), 3, 1, 4, 0, 2);
        dueOrder("rising amounts", amountsOfOneGood(1, 2, 3, 4, 5, 6, 7, 8, 9, 10, 11, 12), 11, 10, 9, 8, 7, 6, 5, 4, 3, 2, 1, 0);
        dueOrder("falling amounts", amountsOfOneGood(12, 11, 10, 9, 8, 7, 6, 5, 4, 3, 2, 1), RISING);
        dueOrder("nothing shown", singles(4, new int[][] {{}, {}, {}, {}}, NO_TIES), 0, 1, 2, 3);
    }

    private static void orderBetterByAChain() {
        dueOrder("as good, one way", singles(2, new int[][] {{}, {}}, new int[][] {{}, {0}}), 1, 0);
        dueOrder("as good, both ways", singles(2, new int[][] {{}, {}}, new int[][] {{1}, {0}}), 0, 1);
        dueOrder("better, one way", singles(2, new int[][] {{}, {0}}, NO_TIES), 1, 0);
        dueOrder("better, but as good the other way", singles(2, new int[][] {{}, {0}}, new int[][] {{1}, {}}), 0, 1);
        dueOrder("as good the other way by a chain", singles(3, new int[][] {{}, {}, {0}}, new int[][] {{1}, {2}, {}}), 0, 1, 2);
        dueOrder("a day above a circle", singles(3, new int[][] {{1}, {0}, {1}}, NO_TIES), 2, 0, 1);
        dueOrder("a day below a circle", singles(3, new int[][] {{}, {0, 2}, {1}}, NO_TIES), 1, 2, 0);
    }

    private static void sizeFromEmptyToFull() {
        WishLedger x = new WishLedger();
        for (int days = 0; days < 12; days++) {
            due("size()", x.size(), days);
            x.day();
        }
        due("size() of a full record", x.size(), 12);
        dueThrows("a day() more", STATE, x::day);
        due("size() behind it", x.size(), 12);
        x.remove(11);
        due("size() behind remove()", x.size(), 11);
        x.offer(0, 5, 5);
        due("size() behind offer()", x.size(), 11);
        x.goods(1);
        due("size() behind goods()", x.size(), 0);
    }

    // ---------------------------------------------------------------------------------------------- all of them

    private static void testTerms() {
        test("An object is used for at most 512 calls after it has been made", BoundaryTests::the512thCall);
        test("GOODS are 0 .. n - 1, n 1 .. 6", BoundaryTests::goodsAtEachNumber);
        test("GOODS are .. (at first 1).", BoundaryTests::oneGoodAtFirst);
        test("DAYS are 0 .. m - 1, at most 12", BoundaryTests::daysAtEachNumber);
        test("those behind one that is taken away move up: the first", BoundaryTests::removeFirstOfFull);
        test("those behind one that is taken away move up: in between", BoundaryTests::removeBetweenOfFull);
        test("those behind one that is taken away move up: the last", BoundaryTests::removeLastOfFull);
        test("those behind one that is taken away move up: all from the first", BoundaryTests::removeFirstUntilEmpty);
        test("those behind one that is taken away move up: all from the last", BoundaryTests::removeLastUntilEmpty);
        test("those behind one that is taken away move up: in each answer", BoundaryTests::removedNumbersMoveEverywhere);
        test("Each day has for each good a PRICE (1 .. 99) and an AMOUNT (0 .. 99)", BoundaryTests::eachDayAndGoodHasItsOwn);
        test("cost(s, t) is what day t's bundle costs at day s's prices", BoundaryTests::costLeastAndGreatest);
        test("all the amounts are its BUNDLE: of the goods there are", BoundaryTests::costOfTheGoodsThereAre);
        test("SHOWN as good .. when cost(s, t) <= cost(s, s); BETTER, when it is less.", BoundaryTests::shownAtTheSameCost);
        test("SHOWN as good .. : nothing was spent", BoundaryTests::shownWithNothingSpent);
        test("(one step is a chain, too)", BoundaryTests::oneStepIsAChain);
        test("SENSIBLE, when there are no days s, t such that .. : the longest chain", BoundaryTests::sensibleByALongChain);
        test("SENSIBLE, when there are no days s, t such that .. : each length", BoundaryTests::sensibleByEachChainLength);
        test("A CIRCLE is a list .. of which at least one is shown better.", BoundaryTests::circleNeedsOneBetter);
        test("A CIRCLE is a list .. and the last one as the first", BoundaryTests::circleGoesBackToTheFirst);
        test("SHRUNK .. when cost(s, t) <= e * cost(s, s), better, when it is less", BoundaryTests::shrunkAtTheSameCost);
        test("SHRUNK by a fraction e above 0, at most 1", BoundaryTests::shrunkByOneIsTheRecordItself);
        test("(a day is as good as itself, and not better)", BoundaryTests::shrunkDayIsAsGoodAsItself);
        test("THE SHRINKAGE is the greatest e .. : the record shrunk by e is sensible", BoundaryTests::shrinkageThatPasses);
        test("THE SHRINKAGE is the greatest e .. : the record shrunk by e is not", BoundaryTests::shrinkageThatFails);
        test("THE SHRINKAGE is the greatest e .. at most 1", BoundaryTests::shrinkageOfOne);
        test("THE SHRINKAGE is the greatest e .. : the least there is", BoundaryTests::shrinkageLeast);
        test("THE SHRINKAGE is the greatest e .. : next to 1", BoundaryTests::shrinkageNextToOne);
        test("NONE = -1", BoundaryTests::noneIsMinusOne);
    }

    private static void testPromises1To10() {
        test("1: One good, no days.", BoundaryTests::newObject);
        test("2: There are n goods, no days.", BoundaryTests::goodsTakesTheDaysAway);
        test("2: There are n goods: of an empty record", BoundaryTests::goodsOfAnEmptyRecord);
        test("3: A new day, the last one: all prices are 1, all amounts 0", BoundaryTests::dayIsTheLastOne);
        test("3: A new day: in a record that was full", BoundaryTests::dayAgainBehindRemove);
        test("4: A price becomes v: what it was; 1 .. 99", BoundaryTests::priceLeastAndGreatest);
        test("5: An amount becomes v: what it was; 0 .. 99", BoundaryTests::amountLeastAndGreatest);
        test("6: A day is taken away: the only one", BoundaryTests::removeTheOnlyDay);
        test("7: cost(s, t): the first and the last day", BoundaryTests::costOfFirstAndLastDay);
        test("8: 2 if .. shown better .., 1 if as good, else 0: the first and the last day",
            BoundaryTests::shownOfFirstAndLastDay);
        test("9: (from a day to itself: one)", BoundaryTests::chainToItself);
        test("9: how many steps", BoundaryTests::chainOfEachLength);
        test("9: the shortest one", BoundaryTests::chainShortestOfSeveral);
        test("9: or NONE", BoundaryTests::chainThatIsNot);
        test("10: Whether the record is sensible: no day, one day", BoundaryTests::sensibleOfFewDays);
        test("10: no two days each shown as good as the other, one of them better (1)", BoundaryTests::sensibleOfTwoDays);
        test("10: Whether the record is sensible (what 0), or .. (1): a ring without such two",
            BoundaryTests::sensibleOnlyInPairs);
        test("10: Whether the record is sensible: the first and the last day", BoundaryTests::sensibleOfFirstAndLastDay);
    }

    private static void testPromises11To18() {
        test("11: Of the shortest circles", BoundaryTests::circleShortestOfSeveral);
        test("11: the one that is least as a list (the first days that differ decide)", BoundaryTests::circleLeastAsAList);
        test("11: the least as a list, of circles alone", BoundaryTests::circleLeastHasABetterStep);
        test("11: how many days it has (i NONE), or its day i, from 0", BoundaryTests::circlePlaces);
        test("11: circles, and days on which nothing was spent", BoundaryTests::circleWithNothingSpent);
        test("12: up 1 .. down, down 1 .. 1000000", BoundaryTests::passesLeastAndGreatest);
        test("12: Whether the record shrunk by up / down is sensible: great numbers", BoundaryTests::passesWithGreatNumbers);
        test("13: in lowest terms, above (what 0) or below (1) the line", BoundaryTests::shrinkageInLowestTerms);
        test("13: THE SHRINKAGE of several circles", BoundaryTests::shrinkageOfSeveralCircles);
        test("13: THE SHRINKAGE of great numbers", BoundaryTests::shrinkageOfGreatNumbers);
        test("14: The fewest days without which the record is sensible: none", BoundaryTests::dropOfASensibleRecord);
        test("14: The fewest days without which the record is sensible", BoundaryTests::dropFewest);
        test("14: the ones whose greatest day that is not in both lists is in the other", BoundaryTests::dropOfSeveral);
        test("14: how many (i NONE), or, in rising order, the i-th, from 0", BoundaryTests::dropPlaces);
        test("15: a new day (at first 1, 0)", BoundaryTests::offerAtFirst);
        test("15: a new day (behind goods() 1, 0)", BoundaryTests::offerBehindGoods);
        test("15: a new day that is not in the record", BoundaryTests::offerOutlivesDays);
        test("15: price and amount as of days: 1 .. 99, 0 .. 99", BoundaryTests::offerLeastAndGreatest);
        test("15: The price of a good: the last one", BoundaryTests::offerOfTheLastGood);
        test("16: Whether the record, with that new day, would be sensible: an empty record", BoundaryTests::fitsAnEmptyRecord);
        test("16: Whether the record .. would be sensible: ties", BoundaryTests::fitsAtTheSameCost);
        test("16: Whether the record .. would be sensible: it is not without", BoundaryTests::fitsARecordAtOdds);
        test("16: with that new day as its last one: a full record", BoundaryTests::fitsAFullRecord);
        test("16: Whether the record .. would be sensible: nothing spent", BoundaryTests::fitsWithNothingSpent);
        test("17: Day of place i", BoundaryTests::orderPlaces);
        test("17: of the days left, the lowest", BoundaryTests::orderLowestOfTies);
        test("17: t is so better than s, if t is as good as s by a chain, but s not as t", BoundaryTests::orderBetterByAChain);
        test("18: How many days there are.", BoundaryTests::sizeFromEmptyToFull);
    }

    public static void main(String[] args) {
        testTerms();
        testPromises1To10();
        testPromises11To18();
        System.out.println(tests + " tests, " + checks + " checks, " + wrong + " wrong");
        if (wrong != 0) {
            System.exit(1);
        }
    }
}
