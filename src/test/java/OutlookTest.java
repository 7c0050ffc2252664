import java.util.Random;

/** Promises 6 to 11: value, today, worth, crate, lent, both. */
public final class OutlookTest {
    private static final int UNKNOWN = FourLorries.UNKNOWN, OUTSIDE = FourLorries.OUTSIDE, STATE = FourLorries.STATE;
    private static final long LOST = FourLorries.LOST;

    public static void main(String[] args) {
        byHand();
        againstModel();
        afterTurns();
        value();
        today();
        worth();
        crate();
        lent();
        both();
        Check.end("OutlookTest");
    }

    private static void byHand() {
        FourLorries x = new FourLorries();
        Check.camp(x, "l1;s2h6e0w3;b4;p2" + "1");
        // Hard is 12 a day and half of the days a part breaks; easy is 8 a day for ever.
        Check.due("one day", x.value(0, 0, 1, 0), 12000000);
        Check.due("last, two days", x.value(0, 1, 2, 0), 24000000);
        Check.due("last, three days", x.value(0, 1, 3, 0), 36000000);
        Check.due("gentle", x.value(0, 2, 3, 1), 24000000);
        Check.due("one: none of one", x.value(0, 3, 12, 1), 0);
        Check.due("never", x.value(0, 4, 3, 0), 21000000);
        x.turn(0, 0, 0, 0);
        Check.due("nothing can run", x.value(0, 0, 2, 1), 0);
        Check.due("but behind a plane", x.value(0, 0, 3, 1), 12000000);
        Check.due("no plane for never", x.value(0, 4, 3, 1), 0);
        // A third stays whole each day: 3, then 1, then a third, which is cut, or is one more.
        Check.camp(x, "l1;s1h8e12w1;b1");
        Check.due("cut", x.value(1, 1, 3, 0), 4333333);
        Check.due("by never", x.value(1, 4, 3, 1), 4333334);
        Check.due("one more", x.value(1, 1, 3, 1), 4333334);
        Check.due("cut by never", x.value(1, 4, 3, 0), 4333333);
    }

    private static void againstModel() {
        Random random = new Random(2);
        for (int run = 0; run < 150; run++) {
            FourLorries x = new FourLorries();
            String text = Model.randomText(random);
            Check.camp(x, text);
            Model model = new Model(text);
            int n = run % 12 + 1;
            for (int rule = 0; rule < 5; rule++) {
                for (int end = 0; end < 2; end++) {
                    Check.due(text + " value " + rule + " " + n + " " + end, x.value(0, rule, n, end), model.value(rule, n, end));
                }
            }
            int today = model.today(n);
            Check.due(text + " today " + n, 10 * x.today(0, n, 0) + x.today(0, n, 1), today);
            for (int s = 0; s < model.sorts; s++) {
                long worth = model.good[s] == 5 ? LOST : model.changed(s, 1, -1, 0, n);
                Check.due(text + " worth " + s + " " + n, x.worth(0, s, n), worth);
            }
            int shorter = Math.min(n, 4);
            int w = random.nextInt(31);
            int[] crate = model.crate(w, shorter);
            for (int s = 0; s < model.sorts; s++) {
                Check.due(text + " crate " + w + " " + shorter + " " + s, x.crate(0, w, shorter, s), crate[s]);
            }
            Check.due(text + " crate's weight " + w, x.crate(0, w, shorter, -1), crate[3]);
            pairs(x, model, random, n);
        }
    }

    private static void pairs(FourLorries x, Model model, Random random, int n) {
        String text = Model.randomText(random);
        Check.camp(x, text);
        Model other = new Model(text);
        for (int s = 0; s < Math.min(model.sorts, other.sorts); s++) {
            long lent = model.good[s] == 0 || other.good[s] == 5 ? LOST
                : model.changed(s, -1, -1, 0, n) + other.changed(s, 1, -1, 0, n);
            Check.due(text + " lent " + s + " " + n, x.lent(0, 1, s, n), lent);
            for (int t = 0; t < Math.min(model.sorts, other.sorts); t++) {
                int due;
                if (s == t) {
                    due = OUTSIDE;
                } else if (model.good[s] == 0 || other.good[t] == 0 || model.good[t] == 5 || other.good[s] == 5) {
                    due = STATE;
                } else {
                    due = model.changed(s, -1, t, 1, n) > 0 && other.changed(t, -1, s, 1, n) > 0 ? 1 : 0;
                }
                Check.due(text + " both " + s + " " + t + " " + n, x.both(0, 1, s, t, n), due);
            }
        }
    }

    /** What was looked at before must not be answered again once a number has turned, or of another camp. */
    private static void afterTurns() {
        Random random = new Random(3);
        for (int run = 0; run < 40; run++) {
            FourLorries x = new FourLorries();
            Model[] models = new Model[2];
            for (int c = 0; c < 2; c++) {
                String text = Model.randomText(random);
                Check.camp(x, text);
                models[c] = new Model(text);
            }
            for (int step = 0; step < 20; step++) {
                int c = random.nextInt(2);
                int s = random.nextInt(models[c].sorts);
                int what = random.nextInt(3);
                int v = random.nextInt(what == 0 ? 6 : 13);
                int[] row = what == 0 ? models[c].good : what == 1 ? models[c].hard : models[c].easy;
                if (random.nextBoolean()) {
                    Check.due("turn", x.turn(c, s, what, v), row[s]);
                    row[s] = v;
                }
                int asked = random.nextInt(2);
                int rule = random.nextInt(5);
                int end = random.nextInt(2);
                Check.due("after turns", x.value(asked, rule, 3, end), models[asked].value(rule, 3, end));
                Check.due("after turns: today", 10 * x.today(asked, 3, 0) + x.today(asked, 3, 1), models[asked].today(3));
            }
        }
    }

    private static FourLorries twoCamps() {
        FourLorries x = new FourLorries();
        Check.camp(x, "l2;s5h1e0w1;s0h1e0w2;s2h1e1w1;b12");
        Check.camp(x, "l2;s1h1e0w1;s5h1e0w2;b34");
        return x;
    }

    private static void value() {
        FourLorries x = twoCamps();
        Check.due("no such camp", x.value(2, 0, 1, 0), LOST);
        Check.due("no such camp", x.value(-1, 0, 1, 0), LOST);
        Check.due("no such rule", x.value(0, 5, 1, 0), LOST);
        Check.due("no such rule", x.value(0, -1, 1, 0), LOST);
        Check.due("no such day", x.value(0, 0, 0, 0), LOST);
        Check.due("no such day", x.value(0, 4, 13, 0), LOST);
        Check.due("no such end", x.value(0, 0, 1, 2), LOST);
        Check.due("no such end", x.value(0, 4, 1, -1), LOST);
    }

    private static void today() {
        FourLorries x = new FourLorries();
        Check.camp(x, "l4;s5h12e0w1;b1199");
        Check.due("of several the most", x.today(0, 1, 0), 4);
        Check.due("hard on the last day", x.today(0, 1, 1), 0);
        Check.due("easy when hard breaks all", x.today(0, 3, 1), 1);
        Check.camp(x, "l3;s3h0e0w1;b000");
        Check.due("hard ahead of easy", 10 * x.today(1, 4, 0) + x.today(1, 4, 1), 30);
        Check.camp(x, "l2;s0h1e1w1;b99");
        Check.due("none", x.today(2, 4, 0), 0);
        Check.due("of none 0", x.today(2, 4, 1), 0);
        Check.due("UNKNOWN ahead", x.today(3, 0, 9), UNKNOWN);
        Check.due("no such day", x.today(0, 0, 0), OUTSIDE);
        Check.due("no such day", x.today(0, 13, 0), OUTSIDE);
        Check.due("no such what", x.today(0, 1, 2), OUTSIDE);
        Check.due("no such what", x.today(0, 1, -1), OUTSIDE);
    }

    private static void worth() {
        FourLorries x = twoCamps();
        Check.due("a part that was short", x.worth(0, 1, 1), 3000000);
        Check.due("there are 5", x.worth(0, 0, 1), LOST);
        Check.due("no such camp", x.worth(2, 0, 1), LOST);
        Check.due("no such sort", x.worth(1, 2, 1), LOST);
        Check.due("no such sort", x.worth(0, -1, 1), LOST);
        Check.due("no such day", x.worth(0, 1, 0), LOST);
        Check.due("no such day", x.worth(0, 1, 13), LOST);
        Check.due("nothing is changed", x.ofSort(0, 1, 0), 0);
    }

    private static void crate() {
        FourLorries x = twoCamps();
        Check.due("no room", x.crate(0, 1, 1, -1), 0);
        Check.due("two of them", x.crate(0, 30, 1, 1), 2);
        Check.due("no more than helps", x.crate(0, 30, 1, -1), 4);
        Check.due("and no others", x.crate(0, 30, 1, 2), 0);
        Check.due("just one", x.crate(0, 3, 1, 1), 1);
        Check.due("weight 0", x.crate(0, 0, 12, -1), 0);
        Check.due("the camp is as it was", x.ofSort(0, 1, 0), 0);
        Check.due("no such camp", x.crate(2, 99, 0, 0), UNKNOWN);
        Check.due("no such sort", x.crate(1, 99, 0, 2), UNKNOWN);
        Check.due("no such sort", x.crate(1, 1, 1, -2), UNKNOWN);
        Check.due("too heavy", x.crate(0, 31, 1, 0), OUTSIDE);
        Check.due("below 0", x.crate(0, -1, 1, 0), OUTSIDE);
        Check.due("no such day", x.crate(0, 1, 0, 0), OUTSIDE);
        Check.due("no such day", x.crate(0, 1, 13, -1), OUTSIDE);
        // Two sorts alike: of sets of one weight the first as a row has none of the first sort.
        Check.camp(x, "l1;s1h6e6w2;s1h6e6w2;b1");
        Check.due("the first as a row", 10 * x.crate(2, 2, 2, 0) + x.crate(2, 2, 2, 1), 1);
        x.turn(2, 0, 3, 1);
        x.turn(2, 1, 3, 9);
        Check.due("the lighter one, though behind as a row", 10 * x.crate(2, 9, 2, 0) + x.crate(2, 9, 2, 1), 10);
        Check.due("its weight", x.crate(2, 9, 2, -1), 1);
        FourLorries y = new FourLorries();
        Check.camp(y, "l4;s0h0e0w1;s0h0e0w1;s0h0e0w1;b1234");
        Check.due("of none at all", y.crate(0, 12, 1, -1), 12);
        Check.due("of none at all, one short", y.crate(0, 11, 1, -1), 9);
    }

    private static void lent() {
        FourLorries x = twoCamps();
        Check.due("from plenty", x.lent(0, 1, 0, 1), 3000000 * (4 - 3));
        Check.due("the camps are as they were", x.ofSort(0, 0, 0) * 10 + x.ofSort(1, 0, 0), 51);
        Check.due("from need", x.lent(1, 0, 0, 1), LOST);
        Check.due("none to give", x.lent(0, 1, 1, 1), LOST);
        Check.due("of both", x.lent(0, 1, 2, 1), LOST);
        Check.due("of both", x.lent(1, 0, 2, 1), LOST);
        Check.due("no such camp", x.lent(0, 2, 0, 1), LOST);
        Check.due("no such camp", x.lent(2, 0, 0, 1), LOST);
        Check.due("both are one", x.lent(1, 1, 0, 1), LOST);
        Check.due("no such day", x.lent(0, 1, 0, 0), LOST);
        Check.due("no such day", x.lent(0, 1, 0, 13), LOST);
        x.turn(0, 0, 0, 4);
        Check.due("a loss", x.lent(1, 0, 0, 1), -9000000);
    }

    private static void both() {
        FourLorries x = twoCamps();
        x.turn(0, 2, 0, 5);
        Check.due("each gains", x.both(0, 1, 0, 1, 2), 1);
        Check.due("the other way there is none to give", x.both(0, 1, 1, 0, 2), STATE);
        Check.due("no such camp", x.both(2, 1, 0, 0, 0), UNKNOWN);
        Check.due("no such camp", x.both(0, 2, 0, 0, 0), UNKNOWN);
        Check.due("no such sort of both", x.both(0, 1, 2, 2, 0), UNKNOWN);
        Check.due("no such sort of both", x.both(1, 0, 0, 2, 1), UNKNOWN);
        Check.due("no such sort of both", x.both(0, 1, 0, 2, 1), UNKNOWN);
        Check.due("no such sort of both", x.both(0, 1, 2, 0, 1), UNKNOWN);
        Check.due("no such sort of both", x.both(1, 0, 2, 0, 1), UNKNOWN);
        Check.due("no such sort of both", x.both(0, 1, -1, 0, 1), UNKNOWN);
        Check.due("both camps are one", x.both(0, 0, 0, 1, 1), OUTSIDE);
        Check.due("both sorts are one", x.both(0, 1, 1, 1, 1), OUTSIDE);
        Check.due("no such day", x.both(0, 1, 1, 0, 0), OUTSIDE);
        Check.due("no such day", x.both(0, 1, 0, 1, 13), OUTSIDE);
        x.turn(0, 1, 0, 5);
        Check.due("5 of what it gets", x.both(0, 1, 0, 1, 1), STATE);
        x.turn(0, 1, 0, 0);
        x.turn(1, 0, 0, 5);
        Check.due("5 of what the other gets", x.both(0, 1, 0, 1, 1), STATE);
        x.turn(1, 0, 0, 1);
        x.turn(1, 1, 0, 0);
        Check.due("the other has none", x.both(0, 1, 0, 1, 1), STATE);
        x.turn(1, 1, 0, 1);
        Check.due("one gains only", x.both(0, 1, 0, 1, 1), 0);
    }
}
