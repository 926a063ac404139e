/** For each promise of the document: ordinary inputs, the edges that it names, and wrong inputs. */
public final class PromiseTests {
    private static final int STATE = 1;
    private static final int ARGUMENT = 2;
    private static final int INDEX = 3;

    private static int checks = 0;
    private static int wrong = 0;

    private interface Call {
        void run();
    }

    private static void due(String call, long got, long want) {
        checks++;
        if (got != want) {
            wrong++;
            System.out.println(call + " answered " + got + ", due is " + want);
        }
    }

    private static void due(String call, boolean got, boolean want) {
        due(call, got ? 1 : 0, want ? 1 : 0);
    }

    private static void dueThrows(String call, int want, Call body) {
        int got = 0;
        try {
            body.run();
        } catch (IllegalStateException e) {
            got = STATE;
        } catch (IllegalArgumentException e) {
            got = ARGUMENT;
        } catch (IndexOutOfBoundsException e) {
            got = INDEX;
        }
        due(call + " throws (1 state, 2 argument, 3 index)", got, want);
    }

    /** A record: rows of prices, rows of amounts. */
    private static WishLedger ledger(int[][] prices, int[][] amounts) {
        WishLedger x = new WishLedger();
        x.goods(prices[0].length);
        for (int day = 0; day < prices.length; day++) {
            x.day();
            for (int good = 0; good < prices[day].length; good++) {
                x.price(day, good, prices[day][good]);
                x.amount(day, good, amounts[day][good]);
            }
        }
        return x;
    }

    /** Two days in conflict, (1,2) bought at (1,2) and (2,1) at (2,1), and (2,2) at (1,1), which is above both. */
    private static WishLedger twoAtOdds() {
        return ledger(new int[][] {{1, 2}, {2, 1}, {1, 1}}, new int[][] {{1, 2}, {2, 1}, {2, 2}});
    }

    /**
     * Each of the days 0 .. n - 1 buys one piece of the good of its own number, at price 10; the good of each day in
     * shows[s] costs it 9 (s is shown better), in ties[s] 10 (as good), each other good 11.
     */
    private static WishLedger singles(int n, int[][] shows, int[][] ties) {
        int[][] prices = new int[n][n];
        int[][] amounts = new int[n][n];
        for (int s = 0; s < n; s++) {
            for (int t = 0; t < n; t++) {
                prices[s][t] = s == t ? 10 : 11;
            }
            for (int t : shows[s]) {
                prices[s][t] = 9;
            }
            for (int t : ties[s]) {
                prices[s][t] = 10;
            }
            amounts[s][s] = 1;
        }
        return ledger(prices, amounts);
    }

    /**
     * Twelve days whose bundles are the corners of a polygon in the plane of three goods. The prices of each day put
     * its own corner and the next one at the same cost, or, on the day that tilts, the next one below it, and all
     * others above. The corner at place i is day 5 * i modulo 12, so the only ring runs 0, 5, 10, 3, 8 and so on.
     */
    private static WishLedger polygon(int tiltedPlace) {
        int[][] edges = {{1, 0}, {2, 1}, {1, 1}, {1, 2}, {0, 1}, {-1, 1}, {-1, 0}, {-2, -1}, {-1, -1}, {-1, -2}, {0, -1}, {1, -1}};
        int[][] prices = new int[12][];
        int[][] amounts = new int[12][];
        int x = 20;
        int y = 20;
        for (int place = 0; place < 12; place++) {
            int dx = edges[place][0];
            int dy = edges[place][1];
            int tilt = place == tiltedPlace ? 1 : 0;
            prices[place * 5 % 12] = new int[] {50 - 10 * dy - tilt * dx, 50 + 10 * dx - tilt * dy, 50};
            amounts[place * 5 % 12] = new int[] {x, y, 99 - x - y};
            x += dx;
            y += dy;
        }
        return ledger(prices, amounts);
    }

    private static final int[] POLYGON = {0, 5, 10, 3, 8, 1, 6, 11, 4, 9, 2, 7};

    private static void promise1NewObject() {
        WishLedger x = new WishLedger();
        due("NONE", WishLedger.NONE, -1);
        due("new: size()", x.size(), 0);
        due("new: day()", x.day(), 0);
        due("new: price(0, 0, 5)", x.price(0, 0, 5), 1);
        dueThrows("new: price(0, 1, 5)", INDEX, () -> x.price(0, 1, 5));
        WishLedger y = new WishLedger();
        due("empty: sensible(0)", y.sensible(0), true);
        due("empty: sensible(1)", y.sensible(1), true);
        due("empty: passes(1, 1)", y.passes(1, 1), true);
        due("empty: shrinkage(0)", y.shrinkage(0), 1);
        due("empty: shrinkage(1)", y.shrinkage(1), 1);
        due("empty: drop(NONE)", y.drop(-1), 0);
        due("empty: fits()", y.fits(), true);
        dueThrows("empty: circle(NONE)", STATE, () -> y.circle(-1));
        dueThrows("empty: order(0)", INDEX, () -> y.order(0));
        dueThrows("empty: cost(0, 0)", INDEX, () -> y.cost(0, 0));
        dueThrows("empty: remove(0)", INDEX, () -> y.remove(0));
    }

    private static void promise2Goods() {
        WishLedger x = new WishLedger();
        x.goods(6);
        x.day();
        due("goods(6): price(0, 5, 7)", x.price(0, 5, 7), 1);
        due("goods(6): amount(0, 5, 99)", x.amount(0, 5, 99), 0);
        dueThrows("goods(6): price(0, 6, 7)", INDEX, () -> x.price(0, 6, 7));
        for (int n : new int[] {0, 7, -1, Integer.MIN_VALUE, Integer.MAX_VALUE}) {
            dueThrows("goods(" + n + ")", ARGUMENT, () -> x.goods(n));
        }
        due("a refused goods() leaves the days", x.size(), 1);
        due("a refused goods() leaves the prices", x.price(0, 5, 8), 7);
        x.goods(6);
        due("goods(6) again: size()", x.size(), 0);
        x.day();
        due("goods(6) again: price(0, 5, 7)", x.price(0, 5, 7), 1);
        due("goods(6) again: amount(0, 5, 7)", x.amount(0, 5, 7), 0);
        x.goods(1);
        x.day();
        due("goods(1): price(0, 0, 7)", x.price(0, 0, 7), 1);
        dueThrows("goods(1): price(0, 1, 7)", INDEX, () -> x.price(0, 1, 7));
    }

    private static void promise3Day() {
        WishLedger x = new WishLedger();
        x.goods(2);
        for (int day = 0; day < 12; day++) {
            due("day()", x.day(), day);
            due("price of a new day", x.price(day, 1, 9), 1);
            due("amount of a new day", x.amount(day, 1, 9), 0);
            due("price of a new day", x.price(day, 0, 9), 1);
            due("amount of a new day", x.amount(day, 0, 9), 0);
        }
        dueThrows("the 13th day()", STATE, x::day);
        due("size() of a full record", x.size(), 12);
        x.remove(0);
        due("day() in a place used before", x.day(), 11);
        due("its price", x.price(11, 1, 5), 1);
        due("its amount", x.amount(11, 1, 5), 0);
    }

    private static void promise4Price() {
        WishLedger x = new WishLedger();
        x.goods(2);
        x.day();
        x.day();
        due("price(1, 0, 99)", x.price(1, 0, 99), 1);
        due("price(1, 0, 1)", x.price(1, 0, 1), 99);
        due("price(1, 1, 4)", x.price(1, 1, 4), 1);
        due("price(0, 0, 4)", x.price(0, 0, 4), 1);
        for (int v : new int[] {0, 100, -1, Integer.MIN_VALUE, Integer.MAX_VALUE}) {
            dueThrows("price(1, 0, " + v + ")", ARGUMENT, () -> x.price(1, 0, v));
        }
        for (int n : new int[] {-1, 2, Integer.MIN_VALUE, Integer.MAX_VALUE}) {
            dueThrows("price(" + n + ", 0, 1)", INDEX, () -> x.price(n, 0, 1));
            dueThrows("price(0, " + n + ", 1)", INDEX, () -> x.price(0, n, 1));
            dueThrows("price(" + n + ", 0, 0)", INDEX, () -> x.price(n, 0, 0));
            dueThrows("price(0, " + n + ", 0)", INDEX, () -> x.price(0, n, 0));
        }
        due("a refused price() changes nothing", x.price(1, 0, 2), 1);
    }

    private static void promise5Amount() {
        WishLedger x = new WishLedger();
        x.goods(2);
        x.day();
        x.day();
        due("amount(1, 0, 99)", x.amount(1, 0, 99), 0);
        due("amount(1, 0, 0)", x.amount(1, 0, 0), 99);
        due("amount(1, 1, 4)", x.amount(1, 1, 4), 0);
        due("amount(0, 0, 4)", x.amount(0, 0, 4), 0);
        for (int v : new int[] {-1, 100, Integer.MIN_VALUE, Integer.MAX_VALUE}) {
            dueThrows("amount(1, 1, " + v + ")", ARGUMENT, () -> x.amount(1, 1, v));
        }
        for (int n : new int[] {-1, 2, Integer.MIN_VALUE, Integer.MAX_VALUE}) {
            dueThrows("amount(" + n + ", 0, 1)", INDEX, () -> x.amount(n, 0, 1));
            dueThrows("amount(0, " + n + ", 1)", INDEX, () -> x.amount(0, n, 1));
            dueThrows("amount(" + n + ", 0, -1)", INDEX, () -> x.amount(n, 0, -1));
            dueThrows("amount(0, " + n + ", -1)", INDEX, () -> x.amount(0, n, -1));
        }
        due("a refused amount() changes nothing", x.amount(1, 1, 2), 4);
    }

    private static void promise6Remove() {
        WishLedger x = ledger(new int[][] {{1, 2}, {3, 4}, {5, 6}, {7, 8}}, new int[][] {{9, 10}, {11, 12}, {13, 14}, {15, 16}});
        for (int day : new int[] {-1, 4, Integer.MIN_VALUE, Integer.MAX_VALUE}) {
            dueThrows("remove(" + day + ")", INDEX, () -> x.remove(day));
        }
        due("a refused remove() leaves the days", x.size(), 4);
        x.remove(1);
        due("size() behind remove(1)", x.size(), 3);
        due("day 0 stays", x.price(0, 1, 2), 2);
        due("day 2 moves up", x.price(1, 0, 5), 5);
        due("day 2 moves up", x.amount(1, 1, 14), 14);
        due("day 3 moves up", x.price(2, 1, 8), 8);
        due("day 3 moves up", x.amount(2, 0, 15), 15);
        dueThrows("remove(3) of three", INDEX, () -> x.remove(3));
        x.remove(2);
        due("size() behind the last one's removal", x.size(), 2);
        x.remove(0);
        x.remove(0);
        due("size() behind all removals", x.size(), 0);
        dueThrows("remove(0) of none", INDEX, () -> x.remove(0));
    }

    private static void promise7Cost() {
        WishLedger x = ledger(new int[][] {{1, 2, 3}, {4, 5, 6}}, new int[][] {{7, 8, 9}, {10, 11, 0}});
        due("cost(0, 0)", x.cost(0, 0), 50);
        due("cost(0, 1)", x.cost(0, 1), 32);
        due("cost(1, 0)", x.cost(1, 0), 122);
        due("cost(1, 1)", x.cost(1, 1), 95);
        dueBadDays("cost", x::cost);
        int[] full = {99, 99, 99, 99, 99, 99};
        due("the greatest cost", ledger(new int[][] {full}, new int[][] {full}).cost(0, 0), 58806);
    }

    private interface OfTwoDays {
        int answer(int s, int t);
    }

    private static void dueBadDays(String name, OfTwoDays call) {
        for (int n : new int[] {-1, 2, 12, Integer.MIN_VALUE, Integer.MAX_VALUE}) {
            dueThrows(name + "(" + n + ", 0)", INDEX, () -> call.answer(n, 0));
            dueThrows(name + "(0, " + n + ")", INDEX, () -> call.answer(0, n));
        }
    }

    private static void promise8Shown() {
        WishLedger x = ledger(new int[][] {{2, 3}, {1, 2}}, new int[][] {{3, 2}, {0, 4}});
        due("shown(0, 1) at the same cost", x.shown(0, 1), 1);
        due("shown(1, 0)", x.shown(1, 0), 2);
        due("shown(0, 0)", x.shown(0, 0), 1);
        x.amount(1, 0, 1);
        due("shown(0, 1) at a greater cost", x.shown(0, 1), 0);
        dueBadDays("shown", x::shown);
    }

    private static void promise9Chain() {
        WishLedger x = singles(6, new int[][] {{1}, {}, {3}, {4}, {}, {}}, new int[][] {{}, {2}, {}, {}, {}, {0}});
        due("chain(0, 0)", x.chain(0, 0), 1);
        due("chain(0, 1)", x.chain(0, 1), 1);
        due("chain(0, 2)", x.chain(0, 2), 2);
        due("chain(0, 4)", x.chain(0, 4), 4);
        due("chain(5, 4)", x.chain(5, 4), 5);
        due("chain(4, 0)", x.chain(4, 0), -1);
        due("chain(0, 5)", x.chain(0, 5), -1);
        x.price(1, 3, 10);
        due("chain(0, 4) with a shorter way", x.chain(0, 4), 3);
        x.remove(1);
        due("chain(0, 3) without the day between", x.chain(0, 3), -1);
        WishLedger ring = polygon(3);
        for (int i = 1; i < 12; i++) {
            due("chain(0, " + POLYGON[i] + ") round the polygon", ring.chain(0, POLYGON[i]), i);
        }
        due("chain(5, 0) round the polygon", ring.chain(5, 0), 11);
        WishLedger two = ledger(new int[][] {{1}, {1}}, new int[][] {{1}, {2}});
        due("chain(1, 0) of two", two.chain(1, 0), 1);
        dueBadDays("chain", two::chain);
    }

    private static void promise10Sensible() {
        due("sensible(0) of two at odds", twoAtOdds().sensible(0), false);
        due("sensible(1) of two at odds", twoAtOdds().sensible(1), false);
        WishLedger ring = singles(3, new int[][] {{1}, {}, {}}, new int[][] {{}, {2}, {0}});
        due("sensible(0) of a circle of three", ring.sensible(0), false);
        due("sensible(1) of a circle of three", ring.sensible(1), true);
        WishLedger ties = singles(3, new int[][] {{}, {}, {}}, new int[][] {{1, 2}, {0, 2}, {0, 1}});
        due("sensible(0) of ties", ties.sensible(0), true);
        due("sensible(1) of ties", ties.sensible(1), true);
        ties.price(2, 0, 9);
        due("sensible(0) with one better", ties.sensible(0), false);
        due("sensible(1) with one better", ties.sensible(1), false);
        WishLedger apart = singles(4, new int[][] {{1}, {}, {3}, {}}, new int[][] {{}, {0}, {}, {}});
        due("sensible(1), the lower day is better", apart.sensible(1), false);
        apart.remove(0);
        due("sensible(0) behind remove", apart.sensible(0), true);
        for (int what : new int[] {-1, 2, Integer.MIN_VALUE, Integer.MAX_VALUE}) {
            dueThrows("sensible(" + what + ")", ARGUMENT, () -> apart.sensible(what));
        }
    }

    private static void dueCircle(String name, WishLedger x, int... days) {
        due(name + ": circle(NONE)", x.circle(-1), days.length);
        for (int i = 0; i < days.length; i++) {
            due(name + ": circle(" + i + ")", x.circle(i), days[i]);
        }
        for (int i : new int[] {days.length, -2, 12, Integer.MIN_VALUE, Integer.MAX_VALUE}) {
            dueThrows(name + ": circle(" + i + ")", INDEX, () -> x.circle(i));
        }
    }

    private static void promise11Circle() {
        dueCircle("two at odds", twoAtOdds(), 0, 1);
        dueCircle("a ring that runs down", singles(4, new int[][] {{}, {}, {1}, {2}}, new int[][] {{}, {3}, {}, {}}), 1, 3, 2);
        dueCircle("the longest", singles(6, new int[][] {{}, {}, {1}, {}, {}, {}}, new int[][] {{3}, {5}, {}, {4}, {2}, {0}}), 0, 3, 4, 2, 1, 5);
        int[][] none = {{}, {}, {}, {}, {}, {}};
        dueCircle("a shorter one behind a longer one", singles(6, new int[][] {{1}, {}, {}, {5}, {}, {}}, new int[][] {{}, {2}, {0}, {}, {}, {3}}), 3, 5);
        dueCircle("the least of two", singles(6, new int[][] {{4, 2}, {}, {}, {}, {}, {}}, new int[][] {{}, {}, {3}, {0}, {1}, {}}), 0, 2, 3);
        dueCircle("the lesser way has no better step", singles(4, new int[][] {{}, {}, {}, {0}}, new int[][] {{1, 3}, {0}, {}, {}}), 0, 3);
        dueCircle("the better step is the last one", singles(4, new int[][] {{}, {}, {0}, {}}, new int[][] {{1, 3}, {2}, {}, {2}}), 0, 1, 2);
        dueCircle("twelve days, the first is better", polygon(0), POLYGON);
        dueCircle("twelve days, the last is better", polygon(11), POLYGON);
        WishLedger flat = polygon(-1);
        dueThrows("twelve days, none is better", STATE, () -> flat.circle(-1));
        WishLedger ties = singles(6, none, new int[][] {{1, 2}, {0}, {0, 3}, {}, {}, {}});
        for (int i : new int[] {-1, 0, 5, Integer.MIN_VALUE, Integer.MAX_VALUE}) {
            dueThrows("ties: circle(" + i + ")", STATE, () -> ties.circle(i));
        }
    }

    private static void promise12Passes() {
        WishLedger x = twoAtOdds();
        due("passes(4, 5), ties in both directions", x.passes(4, 5), true);
        due("passes(800000, 1000000)", x.passes(800000, 1000000), true);
        due("passes(800001, 1000000)", x.passes(800001, 1000000), false);
        due("passes(1, 1)", x.passes(1, 1), false);
        due("passes(1, 1000000)", x.passes(1, 1000000), true);
        WishLedger uneven = ledger(new int[][] {{10, 9}, {8, 10}}, new int[][] {{1, 0}, {0, 1}});
        due("passes(9, 10), one of them is better", uneven.passes(9, 10), false);
        due("passes(89, 100)", uneven.passes(89, 100), true);
        WishLedger same = ledger(new int[][] {{5}, {7}}, new int[][] {{3}, {3}});
        due("passes(1, 1) of equal bundles", same.passes(1, 1), true);
        WishLedger zero = ledger(new int[][] {{5, 2}, {7, 3}, {1, 1}}, new int[][] {{0, 0}, {0, 0}, {1, 0}});
        due("passes(1, 1000000) with empty bundles", zero.passes(1, 1000000), true);
        int[] full = {99, 99, 99, 99, 99, 99};
        int[] less = {99, 99, 99, 99, 99, 98};
        WishLedger great = ledger(new int[][] {full, {1, 99, 99, 99, 99, 99}}, new int[][] {less, {98, 99, 99, 99, 99, 99}});
        due("great numbers: passes(1000000, 1000000)", great.passes(1000000, 1000000), false);
        due("great numbers: passes(999999, 1000000)", great.passes(999999, 1000000), true);
        int[][] bad = {{0, 1}, {-1, 1}, {2, 1}, {1, 0}, {0, 0}, {1, -1}, {-2, -1}, {1, 1000001}, {1000001, 1000001},
            {Integer.MIN_VALUE, 1}, {Integer.MAX_VALUE, Integer.MAX_VALUE}, {1, Integer.MIN_VALUE}};
        for (int[] b : bad) {
            dueThrows("passes(" + b[0] + ", " + b[1] + ")", ARGUMENT, () -> x.passes(b[0], b[1]));
        }
    }

    private static void dueShrinkage(String name, WishLedger x, int up, int down) {
        due(name + ": shrinkage(0)", x.shrinkage(0), up);
        due(name + ": shrinkage(1)", x.shrinkage(1), down);
    }

    private static void promise13Shrinkage() {
        dueShrinkage("two at odds", twoAtOdds(), 4, 5);
        dueShrinkage("lowest terms", ledger(new int[][] {{10, 6}, {4, 10}}, new int[][] {{9, 0}, {0, 9}}), 3, 5);
        dueShrinkage("the least of two circles", singles(4, new int[][] {{1}, {0}, {3}, {}}, new int[][] {{}, {}, {}, {2}}), 9, 10);
        dueShrinkage("a circle with a step at the full cost", singles(2, new int[][] {{1}, {}}, new int[][] {{}, {0}}), 1, 1);
        dueShrinkage("ties", singles(2, new int[][] {{}, {}}, new int[][] {{1}, {0}}), 1, 1);
        dueShrinkage("one day", ledger(new int[][] {{3}}, new int[][] {{4}}), 1, 1);
        dueShrinkage("empty bundles", ledger(new int[][] {{3}, {3}, {2}}, new int[][] {{0}, {0}, {5}}), 1, 1);
        WishLedger ring = singles(3, new int[][] {{1}, {2}, {0}}, new int[][] {{}, {}, {}});
        ring.price(1, 2, 3);
        ring.price(2, 0, 1);
        ring.price(0, 1, 7);
        dueShrinkage("a ring of three", ring, 7, 10);
        for (int what : new int[] {-1, 2, Integer.MIN_VALUE, Integer.MAX_VALUE}) {
            dueThrows("shrinkage(" + what + ")", ARGUMENT, () -> ring.shrinkage(what));
        }
    }

    private static void dueDrop(String name, WishLedger x, int... days) {
        due(name + ": drop(NONE)", x.drop(-1), days.length);
        for (int i = 0; i < days.length; i++) {
            due(name + ": drop(" + i + ")", x.drop(i), days[i]);
        }
        for (int i : new int[] {days.length, -2, 12, Integer.MIN_VALUE, Integer.MAX_VALUE}) {
            dueThrows(name + ": drop(" + i + ")", INDEX, () -> x.drop(i));
        }
    }

    private static void promise14Drop() {
        int[][] none = {{}, {}, {}, {}, {}, {}};
        dueDrop("two at odds", twoAtOdds(), 0);
        dueDrop("sensible", singles(6, none, none));
        dueDrop("a greater day alone", singles(4, new int[][] {{3}, {3}, {}, {0, 1}}, new int[][] {{}, {}, {}, {}}), 3);
        dueDrop("two pairs", singles(6, new int[][] {{}, {4}, {}, {5}, {}, {}}, new int[][] {{}, {}, {}, {}, {1}, {3}}), 1, 3);
        // Each of the days 0, 3 and of the days 1, 2 would do: the greatest day that only one list has is 3.
        int[][] square = {{1, 2}, {0, 3}, {0, 3}, {1, 2}};
        dueDrop("a square", singles(4, square, new int[][] {{}, {}, {}, {}}), 1, 2);
        int[][] all = {{1, 2, 3}, {0, 2, 3}, {0, 1, 3}, {0, 1, 2}};
        dueDrop("all at odds", singles(4, all, new int[][] {{}, {}, {}, {}}), 0, 1, 2);
        dueDrop("a ring", singles(3, new int[][] {{1}, {}, {}}, new int[][] {{}, {2}, {0}}), 0);
        dueDrop("twelve days in a ring", polygon(6), 0);
        WishLedger kept = twoAtOdds();
        kept.drop(0);
        due("drop() leaves the days", kept.size(), 3);
    }

    private static void promise15Offer() {
        WishLedger x = ledger(new int[][] {{1, 2}}, new int[][] {{1, 2}});
        x.offer(0, 2, 2);
        x.offer(1, 1, 1);
        due("an offer at odds", x.fits(), false);
        due("an offer is not in the record", x.size(), 1);
        for (int good : new int[] {-1, 2, Integer.MIN_VALUE, Integer.MAX_VALUE}) {
            dueThrows("offer(" + good + ", 1, 0)", INDEX, () -> x.offer(good, 1, 0));
            dueThrows("offer(" + good + ", 0, -1)", INDEX, () -> x.offer(good, 0, -1));
        }
        for (int v : new int[] {-1, 100, Integer.MIN_VALUE, Integer.MAX_VALUE}) {
            dueThrows("offer(0, " + v + ", 0)", ARGUMENT, () -> x.offer(0, v, 0));
            dueThrows("offer(0, 1, " + v + ")", ARGUMENT, () -> x.offer(0, 1, v));
        }
        dueThrows("offer(0, 0, 0)", ARGUMENT, () -> x.offer(0, 0, 0));
        due("a refused offer changes nothing", x.fits(), false);
        x.offer(0, 1, 2);
        x.offer(1, 2, 2);
        due("an offer that fits", x.fits(), true);
        x.offer(0, 99, 99);
        x.offer(0, 1, 0);
        x.offer(0, 2, 2);
        x.offer(1, 1, 1);
        x.remove(0);
        x.day();
        x.price(0, 1, 2);
        x.amount(0, 0, 1);
        x.amount(0, 1, 2);
        due("an offer outlives the days", x.fits(), false);
        x.offer(1, 9, 1);
        x.goods(2);
        x.day();
        x.price(0, 1, 2);
        x.amount(0, 0, 1);
        x.amount(0, 1, 2);
        due("goods() takes the offer back", x.fits(), true);
        x.offer(0, 2, 2);
        due("behind goods() the other price is 1: 2 * 2 against 2 * 1 + 1 * 2", x.fits(), false);
        x.offer(0, 1, 2);
        due("behind goods() the other amount is 0: 1 * 2 against 1 * 1 + 1 * 2", x.fits(), true);
        x.offer(0, 3, 2);
        x.price(0, 1, 1);
        due("3 * 2 against 3 * 1 + 1 * 2", x.fits(), false);
    }

    private static void promise16Fits() {
        WishLedger bad = twoAtOdds();
        due("a record that is not sensible", bad.fits(), false);
        WishLedger full = new WishLedger();
        full.goods(2);
        for (int day = 0; day < 12; day++) {
            full.day();
            full.amount(day, 0, 1);
            full.amount(day, 1, 2);
            full.price(day, 1, 2);
        }
        full.offer(0, 1, 2);
        full.offer(1, 2, 2);
        due("a thirteenth day that fits", full.fits(), true);
        full.offer(0, 2, 2);
        full.offer(1, 1, 1);
        due("a thirteenth day that does not", full.fits(), false);
        due("the record itself stays sensible", full.sensible(0), true);
        due("size() behind fits()", full.size(), 12);
        dueThrows("day() behind fits()", STATE, full::day);
        WishLedger ring = singles(3, new int[][] {{1}, {2}, {}}, new int[][] {{}, {}, {}});
        ring.remove(2);
        ring.offer(0, 9, 0);
        ring.offer(1, 11, 0);
        ring.offer(2, 10, 1);
        due("an offer that closes a ring of three", ring.fits(), false);
        ring.offer(0, 11, 0);
        due("an offer that does not", ring.fits(), true);
    }

    private static void dueOrder(String name, WishLedger x, int... days) {
        for (int i = 0; i < days.length; i++) {
            due(name + ": order(" + i + ")", x.order(i), days[i]);
        }
        for (int i : new int[] {-1, days.length, 12, Integer.MIN_VALUE, Integer.MAX_VALUE}) {
            dueThrows(name + ": order(" + i + ")", INDEX, () -> x.order(i));
        }
    }

    private static void promise17Order() {
        int[][] none = {{}, {}, {}, {}, {}, {}};
        dueOrder("two at odds below a third", twoAtOdds(), 2, 0, 1);
        dueOrder("twelve days in a ring", polygon(6), 0, 1, 2, 3, 4, 5, 6, 7, 8, 9, 10, 11);
        dueOrder("nothing shown", singles(6, none, none), 0, 1, 2, 3, 4, 5);
        dueOrder("a chain upwards", singles(4, new int[][] {{}, {0}, {}, {2}}, new int[][] {{}, {}, {1}, {}}), 3, 2, 1, 0);
        dueOrder("ties", singles(3, new int[][] {{}, {}, {}}, new int[][] {{1}, {0}, {0}}), 2, 0, 1);
        dueOrder("the lowest that is free", singles(4, new int[][] {{}, {}, {1}, {0}}, none), 2, 1, 3, 0);
        // Day 3 is shown better than day 1 by way of day 2 alone, which is as good as day 3 and is taken first.
        dueOrder("a chain through a day taken", singles(4, new int[][] {{}, {}, {1}, {}}, new int[][] {{}, {}, {3}, {2}}), 0, 2, 3, 1);
    }

    private static void promise18Size() {
        WishLedger x = new WishLedger();
        x.goods(3);
        due("size()", x.size(), 0);
        x.day();
        x.day();
        due("size() of two", x.size(), 2);
        x.remove(1);
        due("size() of one", x.size(), 1);
        x.goods(3);
        due("size() behind goods()", x.size(), 0);
    }

    public static void main(String[] args) {
        promise1NewObject();
        promise2Goods();
        promise3Day();
        promise4Price();
        promise5Amount();
        promise6Remove();
        promise7Cost();
        promise8Shown();
        promise9Chain();
        promise10Sensible();
        promise11Circle();
        promise12Passes();
        promise13Shrinkage();
        promise14Drop();
        promise15Offer();
        promise16Fits();
        promise17Order();
        promise18Size();
        System.out.println(checks + " checks, " + wrong + " wrong");
        if (wrong != 0) {
            System.exit(1);
        }
    }
}
