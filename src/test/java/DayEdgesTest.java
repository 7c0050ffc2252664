/** The boundary cases of promises 6 to 11: value, today, worth, crate, lent, both. */
public final class DayEdgesTest {
    private static final int UNKNOWN = FourLorries.UNKNOWN, OUTSIDE = FourLorries.OUTSIDE, STATE = FourLorries.STATE;
    private static final int MIN = Edges.MIN, MAX = Edges.MAX, LEFT = Edges.LEFT;
    private static final int BEST = 0, LAST = 1, GENTLE = 2, ONE = 3, NEVER = 4;
    private static final long LOST = FourLorries.LOST, MILLION = 1000000;

    public static void main(String[] args) {
        refusalsOfValue();
        leastAndGreatestOfValue();
        emptyCamps();
        nothingBreaks();
        allBreaks();
        aLorryLess();
        planes();
        endsOfCuts();
        refusalsOfToday();
        today();
        refusalsOfWorth();
        worth();
        orderOfCrate();
        crate();
        refusalsOfLent();
        lent();
        orderOfBoth();
        both();
        turnsAreSeenAtOnce();
        Check.end("DayEdgesTest");
    }

    private static FourLorries camps(String... texts) {
        FourLorries x = new FourLorries();
        for (String text : texts) {
            Check.camp(x, text);
        }
        return x;
    }

    /** The first camp has 5 of sort 0 and none of sort 1, the other one has 5 of sort 1, and no sort 2. */
    private static FourLorries two() {
        return camps("l2;s5h1e0w1;s0h1e0w2;s2h1e1w1;b12", "l2;s1h1e0w1;s5h1e0w2;b34");
    }

    private static void refusalsOfValue() {
        for (int c : Edges.outside(0, 1)) {
            Edges.refused("promise 6, no camp " + c, DayEdgesTest::two, x -> x.value(c, 0, 1, 0), LOST, LEFT);
        }
        for (int rule : Edges.outside(0, 4)) {
            Edges.refused("promise 6, no rule " + rule, DayEdgesTest::two, x -> x.value(0, rule, 1, 0), LOST, LEFT);
        }
        for (int rule = 0; rule < 5; rule++) {
            int by = rule;
            for (int n : Edges.outside(1, 12)) {
                Edges.refused("promise 6, to no day " + n, DayEdgesTest::two, x -> x.value(1, by, n, 1), LOST, LEFT);
            }
            for (int end : Edges.outside(0, 1)) {
                Edges.refused("promise 6, no end " + end, DayEdgesTest::two, x -> x.value(1, by, 12, end), LOST, LEFT);
            }
        }
        Edges.refused("promise 6, all of it wrong", DayEdgesTest::two, x -> x.value(2, 5, 13, 2), LOST, LEFT);
    }

    /** Camps of the least and the greatest numbers, by all rules, to the first, the last and the days between. */
    private static void leastAndGreatestOfValue() {
        String[] texts = {"l1;s0h0e0w1;b0", "l4;s5h12e12w9;s5h12e12w9;s5h12e12w9;b9999;p9222", "l4;s5h12e0w1;b0009;p12",
            "l4;s5h1e1w1;s5h1e1w1;s5h1e1w1;b9999;p1222", "l4;s4h11e11w1;s5h11e11w1;b9999", "l1;s1h12e11w1;b9;p11",
            "l4;s0h1e1w1;b1111;p92", "l2;s5h0e12w1;s1h12e0w1;b90"};
        for (String text : texts) {
            FourLorries x = camps(text);
            Model model = new Model(text);
            for (int n = 1; n <= 12; n++) {
                for (int rule = 0; rule < 5; rule++) {
                    for (int end = 0; end < 2; end++) {
                        String what = "promise 6, value by " + rule + " to " + n + ", end " + end + ", of " + text;
                        Check.due(what, x.value(0, rule, n, end), model.value(rule, n, end));
                    }
                }
                Check.due("promise 7, today to " + n + " of " + text, 10 * x.today(0, n, 0) + x.today(0, n, 1), model.today(n));
            }
        }
    }

    private static void emptyCamps() {
        FourLorries x = camps("l4;s0h12e12w1;s5h0e0w1;b9999", "l1;s0h0e0w1;b9;p91");
        for (int rule = 0; rule < 5; rule++) {
            for (int n = 1; n <= 12; n++) {
                Check.due("promise 6, nothing runs", x.value(0, rule, n, n % 2), 0);
                int behindPlane = rule == ONE || rule == NEVER ? 0 : Math.max(0, n - 9);
                Check.due("promise 6, nothing runs ahead of the plane", x.value(1, rule, n, n % 2),
                    behindPlane * (rule == GENTLE ? 18 : 27) * MILLION);
            }
        }
    }

    private static void nothingBreaks() {
        FourLorries x = camps("l4;s5h0e0w1;s4h0e0w1;b2468", "l4;s5h0e0w1;b9999", "l1;s1h0e0w1;b0");
        for (int n = 1; n <= 12; n++) {
            for (int end = 0; end < 2; end++) {
                Check.due("promise 6, best", x.value(0, BEST, n, end), n * 24 * MILLION);
                Check.due("promise 6, last", x.value(0, LAST, n, end), n * 24 * MILLION);
                Check.due("promise 6, gentle", x.value(0, GENTLE, n, end), n * 16 * MILLION);
                Check.due("promise 6, one", x.value(0, ONE, n, end), n * 18 * MILLION);
                Check.due("promise 6, never", x.value(0, NEVER, n, end), n * 24 * MILLION);
                Check.due("promise 6, the most of all", x.value(1, BEST, n, end), n * 27 * MILLION);
                Check.due("promise 6, the least of all", x.value(2, BEST, n, end), 0);
            }
        }
    }

    private static void allBreaks() {
        FourLorries x = camps("l4;s5h12e12w1;b1111", "l4;s5h12e0w1;s4h0e12w1;b1234", "l4;s5h12e12w1;b1234");
        for (int n = 1; n <= 12; n++) {
            for (int end = 0; end < 2; end++) {
                Check.due("promise 6, best: one a day", x.value(0, BEST, n, end), Math.min(n, 5) * 3 * MILLION);
                Check.due("promise 6, last: four, and the one left", x.value(0, LAST, n, end), Math.min(n, 2) * 3 * MILLION);
                Check.due("promise 6, gentle: likewise", x.value(0, GENTLE, n, end), Math.min(n, 2) * 2 * MILLION);
                Check.due("promise 6, one: three, then two", x.value(0, ONE, n, end), Math.min(n, 2) * 3 * MILLION);
                Check.due("promise 6, never: all at once", x.value(0, NEVER, n, end), 3 * MILLION);
                Check.due("promise 6, one sort is used up", x.value(1, LAST, n, end), (n == 1 ? 12 : 15) * MILLION);
                Check.due("promise 6, the other one is", x.value(1, GENTLE, n, end), 8 * MILLION);
                Check.due("promise 6, best: all the same", x.value(2, BEST, n, end), (n == 1 ? 12 : 15) * MILLION);
            }
        }
    }

    private static void aLorryLess() {
        FourLorries x = camps("l1;s5h0e0w1;b9", "l2;s1h0e0w1;b59", "l2;s2h0e0w1;b59");
        for (int n = 1; n <= 12; n++) {
            Check.due("promise 6, with none of one", x.value(0, ONE, n, n % 2), 0);
            Check.due("promise 6, parts for one, and one lorry", x.value(1, ONE, n, n % 2), n * 15 * MILLION);
            Check.due("promise 6, one lorry of two", x.value(2, ONE, n, n % 2), n * 15 * MILLION);
        }
    }

    private static void planes() {
        // All break: 5 days, then none until the plane that ends day 9.
        FourLorries x = camps("l1;s5h12e12w1;b1;p92", "l4;s0h0e0w1;s5h12e12w1;b1234;p122", "l1;s1h12e12w1;b1;p11");
        int[] days = {1, 2, 3, 4, 5, 5, 5, 5, 5, 6, 7, 7};
        for (int n = 1; n <= 12; n++) {
            Check.due("promise 6, a plane each 9 days", x.value(0, LAST, n, n % 2), days[n - 1] * 3 * MILLION);
            Check.due("promise 6, a plane each day", x.value(2, LAST, n, n % 2), n * 3 * MILLION);
            Check.due("promise 6, no plane for never", x.value(2, NEVER, n, n % 2), 3 * MILLION);
        }
        // Of the second sort there are 5 behind days 1 and 2, not 7: so 3 are left for day 4.
        int[] run = {0, 2, 4, 3, 2, 2};
        long sum = 0;
        for (int n = 1; n <= 6; n++) {
            sum += run[n - 1] * 3 * MILLION;
            Check.due("promise 6, 5 at most", x.value(1, LAST, n, n % 2), sum);
        }
    }

    /** What is left over by 12 to the k is cut for LOW and makes it one more for HIGH; what is not, neither. */
    private static void endsOfCuts() {
        FourLorries x = camps("l1;s1h6e6w1;b1", "l1;s1h7e7w1;b1", "l2;s2h11e11w1;b01");
        Check.due("promise 6, nothing is left over, LOW", x.value(0, LAST, 7, 0), 5953125);
        Check.due("promise 6, nothing is left over, HIGH", x.value(0, LAST, 7, 1), 5953125);
        // 3000000 times 5 by 12 is 1250000, then 5 by 12 of that is 520833 and a third.
        Check.due("promise 6, cut", x.value(1, LAST, 3, 0), 3000000 + 1250000 + 520833);
        Check.due("promise 6, one more", x.value(1, LAST, 3, 1), 3000000 + 1250000 + 520834);
        Check.due("promise 6, 1 of 144, cut", x.value(2, LAST, 2, 0), 3000000 + 20833);
        Check.due("promise 6, 1 of 144, one more", x.value(2, LAST, 2, 1), 3000000 + 20834);
        Check.due("promise 6, 1 of 144 by never, cut", x.value(2, NEVER, 2, 0), 3000000 + 20833);
        Check.due("promise 6, 1 of 144 by never, one more", x.value(2, NEVER, 2, 1), 3000000 + 20834);
    }

    private static void refusalsOfToday() {
        for (int c : Edges.outside(0, 1)) {
            Edges.refused("promise 7, no camp " + c, DayEdgesTest::two, x -> x.today(c, 1, 0), UNKNOWN, LEFT);
            Edges.refused("promise 7, UNKNOWN ahead of OUTSIDE", DayEdgesTest::two, x -> x.today(c, 0, 2), UNKNOWN, LEFT);
        }
        for (int n : Edges.outside(1, 12)) {
            Edges.refused("promise 7, to no day " + n, DayEdgesTest::two, x -> x.today(1, n, 0), OUTSIDE, LEFT);
        }
        for (int what : Edges.outside(0, 1)) {
            Edges.refused("promise 7, no what " + what, DayEdgesTest::two, x -> x.today(1, 12, what), OUTSIDE, LEFT);
        }
    }

    private static void today(String why, String text, int n, int lorries, int easy) {
        FourLorries x = camps(text);
        Check.due("promise 7, " + why + ": lorries", x.today(0, n, 0), lorries);
        Check.due("promise 7, " + why + ": easy", x.today(0, n, 1), easy);
    }

    private static void today() {
        for (int n = 1; n <= 12; n += 11) {
            today("none can", "l4;s0h0e0w1;b9999", n, 0, 0);
            today("of all alike the most, hard", "l4;s5h12e12w1;b0000", n, 4, 0);
            today("of all alike the most that can", "l4;s2h1e1w1;b0000", n, 2, 0);
            today("hard is more", "l4;s5h0e0w1;b1234", n, 4, 0);
            today("fewer bring more", "l4;s5h0e0w1;b0090", n, 3, 0);
        }
        today("easy, if hard breaks", "l1;s1h12e0w1;b1", 2, 1, 1);
        today("hard on the last day", "l1;s1h12e0w1;b1", 1, 1, 0);
        today("alike: 3 and 2 in the mean, or 2 and 3; hard ahead", "l1;s1h4e0w1;b1", 2, 1, 0);
        today("easy by a little", "l1;s1h5e0w1;b1", 2, 1, 1);
        today("hard by a little", "l1;s1h3e0w1;b1", 2, 1, 0);
        today("one that brings as much as two", "l2;s2h12e12w1;b11", 2, 1, 0);
        today("two for the last day", "l2;s2h12e12w1;b11", 1, 2, 0);
        today("none runs, so that both do once", "l2;s1h12e12w1;b09;p11", 2, 0, 0);
    }

    private static void refusalsOfWorth() {
        for (int c : Edges.outside(0, 1)) {
            Edges.refused("promise 8, no camp " + c, DayEdgesTest::two, x -> x.worth(c, 0, 1), LOST, LEFT);
        }
        for (int s : Edges.outside(0, 2)) {
            Edges.refused("promise 8, no sort " + s, DayEdgesTest::two, x -> x.worth(0, s, 1), LOST, LEFT);
        }
        for (int s : Edges.outside(0, 1)) {
            Edges.refused("promise 8, no sort " + s + " of the other one", DayEdgesTest::two, x -> x.worth(1, s, 1), LOST, LEFT);
        }
        for (int n : Edges.outside(1, 12)) {
            Edges.refused("promise 8, to no day " + n, DayEdgesTest::two, x -> x.worth(0, 1, n), LOST, LEFT);
        }
        Edges.refused("promise 8, there are 5", DayEdgesTest::two, x -> x.worth(0, 0, 12), LOST, LEFT);
        Edges.refused("promise 8, all of it wrong", DayEdgesTest::two, x -> x.worth(2, 3, 13), LOST, LEFT);
    }

    private static void worth() {
        for (int good = 0; good <= 4; good++) {
            int had = good;
            for (int n = 1; n <= 12; n += 11) {
                int to = n;
                String text = "l4;s" + good + "h12e12w1;s3h0e0w1;b1111";
                long due = Math.min(good + 1, n) - Math.min(good, n);
                Edges.refused("promise 8, one more than " + had, () -> camps(text), x -> x.worth(0, 0, to), due * 3 * MILLION, LEFT);
            }
        }
        FourLorries x = camps("l1;s1h0e0w1;b9", "l2;s1h0e0w1;s1h0e0w1;b19");
        Check.due("promise 8, worth nothing", x.worth(0, 0, 12), 0);
        Check.due("promise 8, one sort alone is worth nothing", x.worth(1, 0, 12), 0);
    }

    /** All that may be wrong with a call of crate, together in all ways. */
    private static void orderOfCrate() {
        for (int c : new int[] {MIN, -1, 0, 1, 2, MAX}) {
            for (int w : new int[] {MIN, -1, 0, 30, 31, MAX}) {
                for (int n : new int[] {MIN, 0, 1, 12, 13, MAX}) {
                    for (int k : new int[] {MIN, -2, -1, 0, 1, 2, 3, MAX}) {
                        oneOrderOfCrate(c, w, n, k);
                    }
                }
            }
        }
    }

    private static void oneOrderOfCrate(int c, int w, int n, int k) {
        String what = "promise 9, crate(" + c + ", " + w + ", " + n + ", " + k + ")";
        int sorts = c == 0 ? 3 : 2;
        if (c < 0 || c > 1 || k < -1 || k >= sorts) {
            Edges.refused(what, DayEdgesTest::two, x -> x.crate(c, w, n, k), UNKNOWN, LEFT);
        } else if (w < 0 || w > 30 || n < 1 || n > 12) {
            Edges.refused(what, DayEdgesTest::two, x -> x.crate(c, w, n, k), OUTSIDE, LEFT);
        } else {
            int[] due = new Model(c == 0 ? "l2;s5h1e0w1;s0h1e0w2;s2h1e1w1;b12" : "l2;s1h1e0w1;s5h1e0w2;b34").crate(w, n);
            Edges.refused(what, DayEdgesTest::two, x -> x.crate(c, w, n, k), due[k < 0 ? 3 : k], LEFT);
        }
    }

    private static void crate() {
        FourLorries x = camps("l4;s0h12e12w6;b1111", "l4;s4h12e12w1;s5h0e0w1;b1111", "l4;s5h12e12w1;s5h12e12w1;s5h12e12w1;b1111");
        for (int w = 0; w <= 30; w++) {
            Check.due("promise 9, as many as the weight allows", x.crate(0, w, 12, 0), w / 6);
            Check.due("promise 9, their weight", x.crate(0, w, 12, -1), w / 6 * 6);
            Check.due("promise 9, 5 at most", x.crate(1, w, 12, 0), Math.min(w, 1));
            Check.due("promise 9, 5 there are", x.crate(2, w, 12, -1), 0);
        }
        FourLorries y = camps("l4;s0h12e12w9;s0h12e12w9;s0h12e12w9;b1111", "l4;s0h12e12w1;s0h12e12w1;s0h12e12w1;b1111",
            "l1;s1h0e0w1;s1h0e0w1;b9");
        Check.due("promise 9, three of 9 are 27", y.crate(0, 27, 12, -1), 27);
        Check.due("promise 9, 26 is too few", y.crate(0, 26, 12, -1), 0);
        Check.due("promise 9, no more for 30", y.crate(0, 30, 12, -1), 27);
        Check.due("promise 9, 5 of each", y.crate(1, 30, 12, -1), 15);
        Check.due("promise 9, 5 of the last", y.crate(1, 30, 12, 2), 5);
        Check.due("promise 9, 4 of each for 14", y.crate(1, 14, 12, -1), 12);
        Check.due("promise 9, what brings nothing stays behind", y.crate(2, 30, 12, -1), 0);
    }

    private static void refusalsOfLent() {
        for (int c : Edges.outside(0, 1)) {
            Edges.refused("promise 10, no camp " + c + " to lend", DayEdgesTest::two, x -> x.lent(c, 1, 0, 1), LOST, LEFT);
            Edges.refused("promise 10, no camp " + c + " to get it", DayEdgesTest::two, x -> x.lent(0, c, 0, 1), LOST, LEFT);
        }
        for (int s : Edges.outside(0, 1)) {
            Edges.refused("promise 10, no sort " + s + " of both", DayEdgesTest::two, x -> x.lent(0, 1, s, 1), LOST, LEFT);
            Edges.refused("promise 10, no sort " + s + " of both, back", DayEdgesTest::two, x -> x.lent(1, 0, s, 1), LOST, LEFT);
        }
        for (int n : Edges.outside(1, 12)) {
            Edges.refused("promise 10, to no day " + n, DayEdgesTest::two, x -> x.lent(0, 1, 0, n), LOST, LEFT);
        }
        for (int c = 0; c < 2; c++) {
            int one = c;
            Edges.refused("promise 10, both are one", DayEdgesTest::two, x -> x.lent(one, one, 0, 1), LOST, LEFT);
        }
        Edges.refused("promise 10, the first has none, the other 5", DayEdgesTest::two, x -> x.lent(0, 1, 1, 1), LOST, LEFT);
        Edges.refused("promise 10, the other has 5", DayEdgesTest::two, x -> x.lent(1, 0, 0, 1), LOST, LEFT);
    }

    /** For all that the two may have: the first has none, or the other one 5, or it is a gain by hand. */
    private static void lent() {
        for (int given = 0; given <= 5; given++) {
            for (int got = 0; got <= 5; got++) {
                String[] texts = {"l4;s" + given + "h0e0w1;b1234", "l4;s" + got + "h0e0w1;b5678"};
                long due = LOST;
                if (given > 0 && got < 5) {
                    int lost = given > 4 ? 0 : 1;
                    int won = got > 3 ? 0 : got == 0 ? 5 : 1;
                    due = 12 * 3 * MILLION * (won - lost);
                }
                Edges.refused("promise 10, one of " + given + " to " + got, () -> camps(texts), x -> x.lent(0, 1, 0, 12), due, LEFT);
            }
        }
    }

    /** All that may be wrong with a call of both, together in all ways. */
    private static void orderOfBoth() {
        int[] camps = {MIN, -1, 0, 1, 2, MAX};
        int[] sorts = {MIN, -1, 0, 1, 2, MAX};
        for (int c : camps) {
            for (int d : camps) {
                for (int s : sorts) {
                    for (int t : sorts) {
                        for (int n : new int[] {MIN, 0, 1, 12, 13, MAX}) {
                            oneOrderOfBoth(c, d, s, t, n);
                        }
                    }
                }
            }
        }
    }

    private static void oneOrderOfBoth(int c, int d, int s, int t, int n) {
        int due;
        if (c < 0 || c > 1 || d < 0 || d > 1 || s < 0 || t < 0 || s > 2 || t > 2 || (c == 1 || d == 1) && (s == 2 || t == 2)) {
            due = UNKNOWN;
        } else if (c == d || s == t || n < 1 || n > 12) {
            due = OUTSIDE;
        } else {
            // The first camp has 5 of sort 0 and none of sort 1: it can give the one and get the other.
            due = (c == 0) == (s == 0) ? 1 : STATE;
        }
        Edges.refused("promise 11, both(" + c + ", " + d + ", " + s + ", " + t + ", " + n + ")", DayEdgesTest::two,
            x -> x.both(c, d, s, t, n), due, LEFT);
    }

    private static void both(String why, String first, String other, int n, int due) {
        Edges.refused("promise 11, " + why, () -> camps(first, other), x -> x.both(0, 1, 0, 1, n), due, LEFT);
        Edges.refused("promise 11, " + why + ", back", () -> camps(first, other), x -> x.both(1, 0, 1, 0, n), due, LEFT);
    }

    private static void both() {
        String gainsMuch = "l1;s0h0e0w1;s2h0e0w1;b1";
        both("more by a millionth", "l1;s2h5e6w1;s1h5e5w1;b4", gainsMuch, 3, 1);
        both("less by a millionth", "l1;s3h4e7w1;s2h4e5w1;b1", gainsMuch, 5, 0);
        both("alike", "l1;s5h0e0w1;s4h0e0w1;b1", gainsMuch, 5, 0);
        both("its last one given", "l1;s1h0e0w1;s4h0e0w1;b1", gainsMuch, 5, 0);
        both("the first has none to give", "l1;s0h0e0w1;s4h0e0w1;b1", gainsMuch, 5, STATE);
        both("the first has 5 of what it gets", "l1;s1h0e0w1;s5h0e0w1;b1", gainsMuch, 5, STATE);
        both("a fifth one got, one given of one", "l4;s1h0e0w1;s4h0e0w1;b1111", "l4;s4h0e0w1;s1h0e0w1;b1111", 1, 0);
        both("the other has none to give", "l1;s2h0e0w1;s0h0e0w1;b1", "l1;s0h0e0w1;s0h0e0w1;b1", 5, STATE);
        both("the other has 5 of what it gets", "l1;s2h0e0w1;s0h0e0w1;b1", "l1;s5h0e0w1;s2h0e0w1;b1", 5, STATE);
        both("both gain", "l1;s2h0e0w1;s0h0e0w1;b1", gainsMuch, 1, 1);
        both("both gain, to the last day", "l1;s5h0e0w1;s0h0e0w1;b1", gainsMuch, 12, 1);
    }

    /** A turn refused is not seen, one that was taken is, by each call, whatever was asked ahead of it. */
    private static void turnsAreSeenAtOnce() {
        FourLorries x = camps("l1;s1h12e12w9;b1", "l1;s1h0e0w1;b1");
        Check.due("promise 8, ahead of a turn", x.worth(0, 0, 2), 3 * MILLION);
        x.turn(0, 0, 1, 13);
        Check.due("promise 8, a turn that was refused", x.worth(0, 0, 2), 3 * MILLION);
        x.turn(0, 0, 1, 0);
        Check.due("promise 8, behind a turn", x.worth(0, 0, 2), 0);
        x.turn(0, 0, 1, 12);
        Check.due("promise 9, ahead of a turn", x.crate(0, 8, 2, 0), 0);
        x.turn(0, 0, 3, 8);
        Check.due("promise 9, behind a turn", x.crate(0, 8, 2, 0), 1);
        Check.due("promise 7, ahead of a turn", x.today(0, 2, 0), 1);
        x.turn(0, 0, 0, 0);
        Check.due("promise 7, behind a turn", x.today(0, 2, 0), 0);
        Check.due("promise 10, none to lend", x.lent(0, 1, 0, 2), LOST);
        x.turn(0, 0, 0, 2);
        Check.due("promise 10, behind a turn", x.lent(0, 1, 0, 2), -3 * MILLION);
        x.turn(1, 0, 0, 0);
        Check.due("promise 10, behind a turn of the other one", x.lent(0, 1, 0, 2), 3 * MILLION);
    }
}
