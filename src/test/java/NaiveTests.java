import java.util.ArrayList;
import java.util.Collections;
import java.util.List;
import java.util.Random;
import java.util.TreeSet;

/**
 * Runs of calls, made from fixed seeds, against a slow model that follows the document's words: circles by trying all
 * lists, days to drop by trying all sets, the shrinkage by trying all fractions at which something changes.
 */
public final class NaiveTests {
    private static final int STATE = 1001;
    private static final int ARGUMENT = 1002;
    private static final int INDEX = 1003;

    private static int wrong = 0;
    private static int calls = 0;

    /** What the runs came across: lengths of circles and of lists to drop, shrinkages below 1, fits of both kinds. */
    private static final int[] circlesOf = new int[13];
    private static final int[] dropsOf = new int[13];
    private static final int[] fitsOf = new int[2];
    private static int shrunk = 0;

    private static final class Refusal extends RuntimeException {
        private static final long serialVersionUID = 1L;
        private final int kind;

        Refusal(int kind) {
            this.kind = kind;
        }
    }

    private static final class Day {
        private final int[] prices = {1, 1, 1, 1, 1, 1};
        private final int[] amounts = new int[6];
    }

    private static final class Model {
        private int goods = 1;
        private List<Day> days = new ArrayList<>();
        private Day offered = new Day();

        private static void check(boolean holds, int kind) {
            if (!holds) {
                throw new Refusal(kind);
            }
        }

        int goods(int n) {
            check(1 <= n && n <= 6, ARGUMENT);
            goods = n;
            days = new ArrayList<>();
            offered = new Day();
            return 0;
        }

        int day() {
            check(days.size() < 12, STATE);
            days.add(new Day());
            return days.size() - 1;
        }

        int price(int day, int good, int v) {
            check(0 <= day && day < days.size() && 0 <= good && good < goods, INDEX);
            check(1 <= v && v <= 99, ARGUMENT);
            int was = days.get(day).prices[good];
            days.get(day).prices[good] = v;
            return was;
        }

        int amount(int day, int good, int v) {
            check(0 <= day && day < days.size() && 0 <= good && good < goods, INDEX);
            check(0 <= v && v <= 99, ARGUMENT);
            int was = days.get(day).amounts[good];
            days.get(day).amounts[good] = v;
            return was;
        }

        int remove(int day) {
            check(0 <= day && day < days.size(), INDEX);
            days.remove(day);
            return 0;
        }

        int cost(int s, int t) {
            check(0 <= s && s < days.size() && 0 <= t && t < days.size(), INDEX);
            return costOf(days.get(s), days.get(t));
        }

        private int costOf(Day s, Day t) {
            int sum = 0;
            for (int good = 0; good < goods; good++) {
                sum += s.prices[good] * t.amounts[good];
            }
            return sum;
        }

        int shown(int s, int t) {
            return cost(s, t) < cost(s, s) ? 2 : cost(s, t) <= cost(s, s) ? 1 : 0;
        }

        private int[][] matrix(List<Day> of, long up, long down) {
            int[][] m = new int[of.size()][of.size()];
            for (int s = 0; s < m.length; s++) {
                long limit = up * costOf(of.get(s), of.get(s));
                for (int t = 0; t < m.length; t++) {
                    long other = down * costOf(of.get(s), of.get(t));
                    m[s][t] = s == t ? 1 : other < limit ? 2 : other == limit ? 1 : 0;
                }
            }
            return m;
        }

        /** Steps of the shortest chains, by one day more between them each time. */
        private static int[][] steps(int[][] m) {
            int[][] d = new int[m.length][m.length];
            for (int s = 0; s < m.length; s++) {
                for (int t = 0; t < m.length; t++) {
                    d[s][t] = m[s][t] > 0 ? 1 : 1000;
                }
            }
            for (int k = 0; k < m.length; k++) {
                for (int s = 0; s < m.length; s++) {
                    for (int t = 0; t < m.length; t++) {
                        d[s][t] = Math.min(d[s][t], d[s][k] + d[k][t]);
                    }
                }
            }
            return d;
        }

        private boolean isSensible(List<Day> of, long up, long down) {
            int[][] m = matrix(of, up, down);
            int[][] d = steps(m);
            for (int s = 0; s < m.length; s++) {
                for (int t = 0; t < m.length; t++) {
                    if (m[t][s] == 2 && d[s][t] < 1000) {
                        return false;
                    }
                }
            }
            return true;
        }

        int chain(int s, int t) {
            cost(s, t);
            int d = steps(matrix(days, 1, 1))[s][t];
            return d < 1000 ? d : -1;
        }

        int sensible(int what) {
            check(what == 0 || what == 1, ARGUMENT);
            if (what == 0) {
                return isSensible(days, 1, 1) ? 1 : 0;
            }
            for (int s = 0; s < days.size(); s++) {
                for (int t = 0; t < days.size(); t++) {
                    if (shown(s, t) == 2 && shown(t, s) >= 1) {
                        return 0;
                    }
                }
            }
            return 1;
        }

        int circle(int i) {
            check(!isSensible(days, 1, 1), STATE);
            int[][] m = matrix(days, 1, 1);
            for (int length = 1; length <= days.size(); length++) {
                List<Integer> list = extend(m, new ArrayList<>(), length);
                if (list != null) {
                    circlesOf[length]++;
                    check(i == -1 || 0 <= i && i < length, INDEX);
                    return i == -1 ? length : list.get(i);
                }
            }
            throw new IllegalStateException("the model finds no circle");
        }

        private static List<Integer> extend(int[][] m, List<Integer> list, int length) {
            if (list.size() == length) {
                return isCircle(m, list) ? list : null;
            }
            for (int next = 0; next < m.length; next++) {
                if (!list.contains(next) && (list.isEmpty() || m[list.get(list.size() - 1)][next] > 0)) {
                    List<Integer> longer = new ArrayList<>(list);
                    longer.add(next);
                    List<Integer> found = extend(m, longer, length);
                    if (found != null) {
                        return found;
                    }
                }
            }
            return null;
        }

        private static boolean isCircle(int[][] m, List<Integer> list) {
            boolean better = false;
            for (int i = 0; i < list.size(); i++) {
                int step = m[list.get(i)][list.get((i + 1) % list.size())];
                if (step == 0) {
                    return false;
                }
                better |= step == 2;
            }
            return better;
        }

        int passes(int up, int down) {
            check(1 <= down && down <= 1000000 && 1 <= up && up <= down, ARGUMENT);
            return isSensible(days, up, down) ? 1 : 0;
        }

        private static final class Part implements Comparable<Part> {
            private final long up;
            private final long down;

            Part(long up, long down) {
                this.up = up;
                this.down = down;
            }

            @Override
            public int compareTo(Part other) {
                return Long.compare(up * other.down, other.up * down);
            }
        }

        int shrinkage(int what) {
            check(what == 0 || what == 1, ARGUMENT);
            TreeSet<Part> parts = new TreeSet<>();
            parts.add(new Part(1, 1));
            for (Day s : days) {
                for (Day t : days) {
                    if (0 < costOf(s, t) && costOf(s, t) < costOf(s, s)) {
                        parts.add(new Part(costOf(s, t), costOf(s, s)));
                    }
                }
            }
            Part before = new Part(0, 1);
            for (Part p : parts) {
                if (!holdsBelow(before, p)) {
                    break;
                }
                before = p;
            }
            if (before.up != before.down) {
                shrunk++;
            }
            long divisor = 1;
            for (long d = 2; d <= before.up; d++) {
                divisor = before.up % d == 0 && before.down % d == 0 ? d : divisor;
            }
            return (int) ((what == 0 ? before.up : before.down) / divisor);
        }

        /** Between two fractions next to each other nothing changes: one between them tells of all. */
        private boolean holdsBelow(Part low, Part high) {
            boolean atLow = low.up == 0 || isSensible(days, low.up, low.down);
            return atLow && isSensible(days, low.up + high.up, low.down + high.down);
        }

        int drop(int i) {
            List<Integer> best = null;
            for (int set = 0; set < 1 << days.size(); set++) {
                List<Integer> list = new ArrayList<>();
                List<Day> rest = new ArrayList<>();
                for (int day = 0; day < days.size(); day++) {
                    if ((set >> day & 1) == 1) {
                        list.add(day);
                    } else {
                        rest.add(days.get(day));
                    }
                }
                if ((best == null || list.size() <= best.size()) && isSensible(rest, 1, 1)) {
                    best = best == null || list.size() < best.size() || comesFirst(list, best) ? list : best;
                }
            }
            dropsOf[best.size()]++;
            check(i == -1 || 0 <= i && i < best.size(), INDEX);
            return i == -1 ? best.size() : best.get(i);
        }

        private static boolean comesFirst(List<Integer> list, List<Integer> other) {
            for (int day = 11; day >= 0; day--) {
                if (list.contains(day) != other.contains(day)) {
                    return other.contains(day);
                }
            }
            return false;
        }

        int offer(int good, int price, int amount) {
            check(0 <= good && good < goods, INDEX);
            check(1 <= price && price <= 99 && 0 <= amount && amount <= 99, ARGUMENT);
            offered.prices[good] = price;
            offered.amounts[good] = amount;
            return 0;
        }

        int fits() {
            List<Day> more = new ArrayList<>(days);
            more.add(offered);
            int answer = isSensible(more, 1, 1) ? 1 : 0;
            fitsOf[answer]++;
            return answer;
        }

        int order(int i) {
            check(0 <= i && i < days.size(), INDEX);
            int[][] d = steps(matrix(days, 1, 1));
            List<Integer> left = new ArrayList<>();
            for (int day = 0; day < days.size(); day++) {
                left.add(day);
            }
            List<Integer> placed = new ArrayList<>();
            while (!left.isEmpty()) {
                List<Integer> free = new ArrayList<>();
                for (int s : left) {
                    boolean outdone = false;
                    for (int t : left) {
                        outdone |= d[t][s] < 1000 && d[s][t] >= 1000;
                    }
                    if (!outdone) {
                        free.add(s);
                    }
                }
                Integer next = Collections.min(free);
                placed.add(next);
                left.remove(next);
            }
            return placed.get(i);
        }
    }

    private static int answer(WishLedger x, String name, int a, int b, int c) {
        try {
            switch (name) {
                case "goods": x.goods(a); return 0;
                case "day": return x.day();
                case "price": return x.price(a, b, c);
                case "amount": return x.amount(a, b, c);
                case "remove": x.remove(a); return 0;
                case "cost": return x.cost(a, b);
                case "shown": return x.shown(a, b);
                case "chain": return x.chain(a, b);
                case "sensible": return x.sensible(a) ? 1 : 0;
                case "circle": return x.circle(a);
                case "passes": return x.passes(a, b) ? 1 : 0;
                case "shrinkage": return x.shrinkage(a);
                case "drop": return x.drop(a);
                case "offer": x.offer(a, b, c); return 0;
                case "fits": return x.fits() ? 1 : 0;
                case "order": return x.order(a);
                default: return x.size();
            }
        } catch (IllegalStateException e) {
            return -STATE;
        } catch (IllegalArgumentException e) {
            return -ARGUMENT;
        } catch (IndexOutOfBoundsException e) {
            return -INDEX;
        }
    }

    private static int answer(Model x, String name, int a, int b, int c) {
        try {
            switch (name) {
                case "goods": return x.goods(a);
                case "day": return x.day();
                case "price": return x.price(a, b, c);
                case "amount": return x.amount(a, b, c);
                case "remove": return x.remove(a);
                case "cost": return x.cost(a, b);
                case "shown": return x.shown(a, b);
                case "chain": return x.chain(a, b);
                case "sensible": return x.sensible(a);
                case "circle": return x.circle(a);
                case "passes": return x.passes(a, b);
                case "shrinkage": return x.shrinkage(a);
                case "drop": return x.drop(a);
                case "offer": return x.offer(a, b, c);
                case "fits": return x.fits();
                case "order": return x.order(a);
                default: return x.days.size();
            }
        } catch (Refusal e) {
            return -e.kind;
        }
    }

    private final Random random;
    private final int run;
    private final WishLedger ledger = new WishLedger();
    private final Model model = new Model();
    private final int mostPrice;
    private final int mostAmount;

    private NaiveTests(int run) {
        this.run = run;
        random = new Random(run);
        mostPrice = run % 3 == 0 ? 99 : run % 3 == 1 ? 6 : 3;
        mostAmount = run % 5 == 0 ? 99 : run % 5 < 3 ? 5 : 2;
    }

    private void compare(String name, int... arguments) {
        int a = arguments.length > 0 ? arguments[0] : 0;
        int b = arguments.length > 1 ? arguments[1] : 0;
        int c = arguments.length > 2 ? arguments[2] : 0;
        int want = answer(model, name, a, b, c);
        int got = answer(ledger, name, a, b, c);
        calls++;
        if (got != want) {
            wrong++;
            System.out.println("run " + run + ": " + name + "(" + a + ", " + b + ", " + c + ") answered " + got + ", due is " + want);
        }
    }

    private int upTo(int most) {
        return random.nextInt(most + 1);
    }

    /** Mostly a number that is meant, at times one that is not. */
    private int index(int count) {
        return random.nextInt(12) == 0 ? random.nextInt(20) - 3 : random.nextInt(Math.max(1, count));
    }

    private int somePrice() {
        return random.nextInt(40) == 0 ? random.nextInt(5) * 25 : 1 + random.nextInt(mostPrice);
    }

    private int someAmount() {
        return random.nextInt(40) == 0 ? random.nextInt(5) * 34 - 34 : upTo(mostAmount);
    }

    private void addDay() {
        compare("day");
        int day = model.days.size() - 1;
        for (int good = 0; good < model.goods; good++) {
            compare("price", day, good, somePrice());
            compare("amount", day, good, run % 4 == 0 && good != day % model.goods ? 0 : someAmount());
        }
    }

    /** Each day buys one piece of one good; few others are shown, so that the circles are long ones. */
    private void addSparseDay(int day) {
        compare("day");
        for (int good = 0; good < 6; good++) {
            int kind = random.nextInt(12);
            compare("price", day, good, good == day % 6 || kind < 3 ? 10 : kind == 3 ? 9 : 11);
        }
        compare("amount", day, day % 6, 1);
    }

    private void goSparse() {
        compare("goods", 6);
        for (int day = 0; day < (run % 4 == 0 ? 8 : 6); day++) {
            addSparseDay(day);
        }
        for (int good = 0; good < 6; good++) {
            compare("offer", good, 9 + random.nextInt(3), good == run % 6 ? 1 : 0);
        }
        ask();
        askAll();
    }

    private void change() {
        int days = model.days.size();
        switch (random.nextInt(10)) {
            case 0: compare("remove", index(days)); break;
            case 1: addDay(); break;
            case 2: case 3: case 4: compare("price", index(days), index(model.goods), somePrice()); break;
            case 5: case 6: case 7: compare("amount", index(days), index(model.goods), someAmount()); break;
            default: compare("offer", index(model.goods), somePrice(), someAmount()); break;
        }
    }

    private void ask() {
        int days = model.days.size();
        compare("size");
        compare("cost", index(days), index(days));
        compare("shown", index(days), index(days));
        compare("chain", index(days), index(days));
        compare("chain", index(days), index(days));
        compare("sensible", index(2));
        compare("circle", -1);
        compare("circle", index(3));
        int down = 1 + random.nextInt(random.nextBoolean() ? 20 : 1000000);
        compare("passes", random.nextInt(20) == 0 ? down + random.nextInt(2) : 1 + random.nextInt(down), down);
        compare("passes", Math.max(1, ledger.shrinkage(0)), Math.max(1, ledger.shrinkage(1)));
        compare("shrinkage", 0);
        compare("shrinkage", 1);
        compare("shrinkage", index(2));
        compare("drop", -1);
        compare("drop", index(3));
        compare("fits");
        compare("order", index(days));
    }

    private void askAll() {
        int days = model.days.size();
        for (int i = -2; i <= days; i++) {
            compare("order", i);
            compare("circle", i);
            compare("drop", i);
            compare("chain", upTo(days), i);
        }
    }

    private void go() {
        compare("goods", random.nextInt(10) == 0 ? random.nextInt(9) - 1 : 2 + random.nextInt(5));
        int most = run % 10 == 0 ? 13 : 2 + random.nextInt(6);
        for (int day = 0; day < most; day++) {
            addDay();
        }
        for (int good = 0; good < model.goods; good++) {
            compare("offer", good, somePrice(), someAmount());
        }
        ask();
        for (int round = 0; round < 3; round++) {
            change();
            ask();
        }
        askAll();
    }

    private static void require(boolean holds, String what) {
        if (!holds) {
            wrong++;
            System.out.println("the runs do not reach " + what);
        }
    }

    public static void main(String[] args) {
        for (int run = 1; run <= 1200; run++) {
            new NaiveTests(run).go();
            new NaiveTests(run).goSparse();
        }
        for (int length = 2; length <= 5; length++) {
            require(circlesOf[length] > 0, "a circle of " + length);
        }
        for (int count = 0; count <= 5; count++) {
            require(dropsOf[count] > 0, "a list of " + count + " to drop");
        }
        require(shrunk > 0 && fitsOf[0] > 0 && fitsOf[1] > 0, "a shrinkage below 1, or offers of both kinds");
        System.out.println(calls + " calls compared, " + wrong + " wrong");
        if (wrong != 0) {
            System.exit(1);
        }
    }
}
