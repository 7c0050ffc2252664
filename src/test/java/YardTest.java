import java.util.Random;

/** Promises 12 to 24: part, ofPart, at, fits, move, mend, hide, spoils, odds, runs, most, goes, drive. */
public final class YardTest {
    private static final int UNKNOWN = FourLorries.UNKNOWN, OUTSIDE = FourLorries.OUTSIDE;
    private static final int STATE = FourLorries.STATE, FULL = FourLorries.FULL, NONE = FourLorries.NONE;

    public static void main(String[] args) {
        part();
        ofPart();
        at();
        fits();
        move();
        spoiling();
        refusalsOfMove();
        mend();
        hide();
        spoilsAndOdds();
        runs();
        most();
        goes();
        mostAgainstAllWays();
        drive();
        refusalsOfDrive();
        Check.end("YardTest");
    }

    private static void part() {
        FourLorries x = new FourLorries();
        int[][] wrong = {{-1, 0, 1}, {3, 0, 1}, {0, -1, 1}, {0, 3, 1}, {0, 0, 0}, {0, 0, 10}};
        for (int[] w : wrong) {
            Check.due("part as not told", x.part(w[0], w[1], w[2]), OUTSIDE);
        }
        Check.due("none has come", x.many(1), 0);
        for (int p = 0; p < 12; p++) {
            Check.due("part", x.part(p % 3, p / 3 % 3, 1 + p % 9), p);
        }
        for (int[] w : wrong) {
            Check.due("OUTSIDE ahead of FULL", x.part(w[0], w[1], w[2]), OUTSIDE);
        }
        Check.due("a 13th", x.part(0, 0, 1), FULL);
        Check.due("12 have come", x.many(1), 12);
    }

    private static void state(FourLorries x, int p, int... due) {
        for (int what = 0; what < due.length; what++) {
            Check.due("ofPart(" + p + ", " + what + ")", x.ofPart(p, what), due[what]);
        }
    }

    private static void ofPart() {
        FourLorries x = new FourLorries();
        x.part(1, 2, 9);
        x.part(2, 1, 4);
        state(x, 0, 1, 2, 9, 1, NONE, NONE, 0, OUTSIDE);
        x.move(0, 3, 0, 0);
        x.mend(0, false);
        x.hide(1, true);
        state(x, 0, 1, 2, 9, 0, 3, 0, 0, OUTSIDE);
        state(x, 1, 2, 1, 4, 1, NONE, NONE, 1, OUTSIDE);
        Check.due("what below 0", x.ofPart(0, -1), OUTSIDE);
        Check.due("no such part", x.ofPart(2, 9), UNKNOWN);
        Check.due("no such part", x.ofPart(-1, 0), UNKNOWN);
    }

    private static void at() {
        FourLorries x = new FourLorries();
        x.part(0, 2, 9);
        x.part(0, 2, 9);
        x.move(1, 3, 2, 0);
        Check.due("the part there", x.at(3, 2), 1);
        Check.due("nothing there", x.at(0, 0), NONE);
        x.move(1, NONE, 0, 11);
        Check.due("nothing any more", x.at(3, 2), NONE);
        for (int wrong : new int[] {-1, 4, NONE}) {
            Check.due("no such lorry", x.at(wrong, 0), UNKNOWN);
        }
        Check.due("no such sort", x.at(0, 3), UNKNOWN);
        Check.due("no such sort", x.at(0, -1), UNKNOWN);
    }

    private static void fits() {
        FourLorries x = new FourLorries();
        for (int kind = 0; kind < 3; kind++) {
            for (int sort = 0; sort < 3; sort++) {
                x.part(kind, sort, 5);
            }
        }
        int[][] due = {{5, NONE, NONE}, {NONE, 5, NONE}, {NONE, NONE, 5}, {5, 7, NONE}, {NONE, 5, 7}, {7, NONE, 5},
            {5, 6, 6}, {6, 5, 6}, {6, 6, 5}};
        for (int p = 0; p < 9; p++) {
            for (int sort = 0; sort < 3; sort++) {
                Check.due("fits(" + p + ", " + sort + ")", x.fits(p, sort), due[p][sort]);
            }
        }
        x.mend(0, false);
        x.hide(0, true);
        Check.due("broken and hidden ones fit as well", x.fits(0, 0), 5);
        Check.due("no such part", x.fits(9, 0), UNKNOWN);
        Check.due("no such part", x.fits(-1, 0), UNKNOWN);
        Check.due("no such sort", x.fits(0, 3), UNKNOWN);
        Check.due("no such sort", x.fits(0, -1), UNKNOWN);
    }

    private static void move() {
        FourLorries x = new FourLorries();
        x.part(1, 2, 5);
        x.part(2, 1, 6);
        Check.due("hours of its own sort", x.move(0, 0, 2, 0), 5);
        Check.due("out of the crate nothing spoils", x.ofPart(0, 3), 1);
        Check.due("it is there", x.at(0, 2), 0);
        Check.due("filed, hours of the next sort", x.move(0, 1, 0, 11), 7);
        Check.due("it has left", x.at(0, 2), NONE);
        Check.due("common, hours of another sort", x.move(1, 0, 2, 11), 7);
        Check.due("common, hours of its own", x.move(1, 0, 1, 11), 6);
        Check.due("to the crate, whatever the sort", x.move(1, NONE, 77, 11), 0);
        Check.due("in the crate", x.ofPart(1, 4), NONE);
        Check.due("in the crate", x.ofPart(1, 5), NONE);
        Check.due("and good", x.many(2), 2);
        x.mend(1, false);
        Check.due("a broken one is moved, too", x.move(1, 2, 1, 0), 6);
    }

    private static void spoiling() {
        FourLorries x = new FourLorries();
        x.part(0, 0, 1);
        x.move(0, 0, 0, 0);
        x.move(0, 1, 0, 3);
        Check.due("a draw of 3 spoils nothing", x.ofPart(0, 3), 1);
        Check.due("a draw of 2 spoils", x.move(0, NONE, 0, 2), 0);
        state(x, 0, 0, 0, 1, 0, NONE, NONE, 0);
        x.mend(0, true);
        x.move(0, 0, 0, 0);
        Check.due("a draw of 0 spoils for a place, too", x.move(0, 2, 0, 0), 1);
        state(x, 0, 0, 0, 1, 0, 2, 0, 0);
        x.mend(0, true);
        x.spoils(0);
        x.move(0, 0, 0, 0);
        Check.due("nothing is below 0", x.ofPart(0, 3), 1);
        x.spoils(12);
        x.move(0, 1, 0, 11);
        Check.due("all is below 12", x.ofPart(0, 3), 0);
    }

    private static void refusalsOfMove() {
        FourLorries x = new FourLorries();
        x.part(0, 0, 1);
        x.part(1, 0, 1);
        x.move(0, 0, 0, 0);
        Check.due("no such part", x.move(2, 0, 0, 12), UNKNOWN);
        Check.due("no such part", x.move(-1, 0, 0, 0), UNKNOWN);
        for (int wrong : new int[] {-1, 4, -10}) {
            Check.due("no such lorry", x.move(1, wrong, 0, 12), UNKNOWN);
        }
        Check.due("no such sort", x.move(1, 0, 3, 12), UNKNOWN);
        Check.due("no such sort", x.move(1, 0, -1, 0), UNKNOWN);
        Check.due("draw ahead of STATE", x.move(1, 0, 0, 12), OUTSIDE);
        Check.due("draw below 0", x.move(1, 1, 0, -1), OUTSIDE);
        Check.due("draw for the crate", x.move(0, NONE, 0, 12), OUTSIDE);
        Check.due("the place is not free", x.move(1, 0, 0, 0), STATE);
        Check.due("it does not fit", x.move(1, 0, 2, 0), STATE);
        Check.due("it does not fit", x.move(0, 1, 1, 0), STATE);
        Check.due("it is there", x.move(0, 0, 0, 0), STATE);
        Check.due("it is in the crate", x.move(1, NONE, 0, 0), STATE);
        Check.due("nothing was spoilt", x.many(2), 2);
        x.hide(1, true);
        Check.due("it is hidden", x.move(1, 1, 0, 0), STATE);
        Check.due("nor to the crate", x.move(1, NONE, 0, 0), STATE);
    }

    private static void mend() {
        FourLorries x = new FourLorries();
        x.part(0, 0, 1);
        Check.due("good already", x.mend(0, true), 0);
        Check.due("broken", x.mend(0, false), 1);
        Check.due("is broken", x.ofPart(0, 3), 0);
        Check.due("broken already", x.mend(0, false), 0);
        Check.due("good again", x.mend(0, true), 1);
        Check.due("is good", x.ofPart(0, 3), 1);
        Check.due("no such part", x.mend(1, true), UNKNOWN);
        Check.due("no such part", x.mend(-1, false), UNKNOWN);
    }

    private static void hide() {
        FourLorries x = new FourLorries();
        x.part(0, 0, 1);
        x.part(0, 0, 1);
        Check.due("shown already", x.hide(0, false), 0);
        Check.due("hidden", x.hide(0, true), 1);
        Check.due("is hidden", x.ofPart(0, 6), 1);
        Check.due("is counted", x.many(3), 1);
        Check.due("hidden already", x.hide(0, true), 0);
        Check.due("shown", x.hide(0, false), 1);
        Check.due("is shown", x.ofPart(0, 6), 0);
        x.move(1, 0, 0, 0);
        Check.due("not in the crate", x.hide(1, true), STATE);
        Check.due("not in the crate", x.hide(1, false), STATE);
        Check.due("no such part", x.hide(2, true), UNKNOWN);
        Check.due("no such part", x.hide(-1, true), UNKNOWN);
    }

    private static void spoilsAndOdds() {
        FourLorries x = new FourLorries();
        Check.due("spoils at first", x.spoils(12), 3);
        Check.due("spoils then", x.spoils(0), 12);
        Check.due("spoils too many", x.spoils(13), OUTSIDE);
        Check.due("spoils below 0", x.spoils(-1), OUTSIDE);
        Check.due("spoils still", x.spoils(5), 0);
        for (int sort = 0; sort < 3; sort++) {
            Check.due("odds at first", x.odds(sort, 12 - sort), 2);
        }
        for (int sort = 0; sort < 3; sort++) {
            Check.due("odds too many", x.odds(sort, 13), OUTSIDE);
            Check.due("odds below 0", x.odds(sort, -1), OUTSIDE);
            Check.due("odds then", x.odds(sort, 0), 12 - sort);
        }
        Check.due("odds of no sort", x.odds(3, 13), UNKNOWN);
        Check.due("odds of no sort", x.odds(-1, 0), UNKNOWN);
    }

    /** A yard with a lorry complete, of kinds so that its parts are not all of their places' sorts. */
    private static FourLorries complete() {
        FourLorries x = new FourLorries();
        x.part(1, 2, 1);
        x.part(2, 2, 2);
        x.part(0, 2, 3);
        for (int p = 0; p < 3; p++) {
            x.move(p, 2, p, 0);
        }
        return x;
    }

    private static void runs() {
        FourLorries x = complete();
        Check.due("one runs", x.runs(), 4);
        for (int p = 0; p < 3; p++) {
            x.mend(p, false);
            Check.due("broken", x.runs(), 0);
            x.mend(p, true);
            x.move(p, NONE, 0, 11);
            Check.due("not complete", x.runs(), 0);
            x.move(p, 2, p, 0);
        }
        for (int p = 3; p < 6; p++) {
            x.part(0, p - 3, 1);
            x.move(p, 0, p - 3, 0);
        }
        Check.due("two run", x.runs(), 5);
    }

    private static void most() {
        FourLorries x = complete();
        way(x, 1, 0, 0, 4);
        x.part(0, 0, 9);
        x.mend(0, false);
        way(x, 1, 1, 9, 4);
        x.hide(3, true);
        // Without it the common one must go ahead, and no other part fits the middle.
        way(x, 0, 0, 0, 0);
        x.part(1, 0, 4);
        way(x, 1, 1, 4, 4);
        x.part(0, 1, 1);
        x.part(2, 0, 5);
        x.mend(0, true);
        way(x, 2, 3, 4 + 1 + 6, 5);
        x.sheet(0, 0, 3);
        x.drive(0, 0, 0, 3);
        way(x, 1, 3, 4 + 1 + 6, 1);
        Check.due("no such what", x.most(4), OUTSIDE);
        Check.due("no such what", x.most(-1), OUTSIDE);
    }

    private static void way(FourLorries x, int... due) {
        for (int what = 0; what < 4; what++) {
            Check.due("most(" + what + ")", x.most(what), due[what]);
        }
    }

    private static void goes() {
        FourLorries x = complete();
        int[] due = {20, 21, 22};
        for (int p = 0; p < 3; p++) {
            Check.due("stays", x.goes(p), due[p]);
        }
        x.part(0, 1, 1);
        Check.due("into none", x.goes(3), NONE);
        Check.due("no such part", x.goes(4), UNKNOWN);
        Check.due("no such part", x.goes(-1), UNKNOWN);
    }

    /** Tries every way, in the order of rows of parts, and keeps the first of the best. */
    private static final class AllWays {
        private final FourLorries x;
        private final int parts;
        private final int[] row = new int[12];
        private final boolean[] used = new boolean[12];
        private int[] places = new int[0];
        private int best = Integer.MAX_VALUE;
        private int bestSet = 0;
        private int[] bestRow = new int[0];
        private int[] bestPlaces = new int[0];

        AllWays(FourLorries x) {
            this.x = x;
            this.parts = x.many(1);
            for (int m = 4; m >= 0 && best == Integer.MAX_VALUE; m--) {
                for (int set = 0; set < 16; set++) {
                    if (Integer.bitCount(set) == m) {
                        places = placesOf(set);
                        search(0, 0, set);
                    }
                }
            }
        }

        private static int[] placesOf(int set) {
            return java.util.stream.IntStream.range(0, 12).filter(place -> (set >> place / 3 & 1) == 1).toArray();
        }

        private void search(int depth, int price, int set) {
            if (price >= best) {
                return;
            }
            if (depth == places.length) {
                best = price;
                bestSet = set;
                bestRow = row.clone();
                bestPlaces = places;
                return;
            }
            int lorry = places[depth] / 3;
            int sort = places[depth] % 3;
            for (int p = 0; p < parts; p++) {
                int hours = x.fits(p, sort);
                if (used[p] || hours == NONE || x.ofPart(p, 3) == 0 || x.ofPart(p, 6) == 1) {
                    continue;
                }
                used[p] = true;
                row[depth] = p;
                search(depth + 1, price + (x.at(lorry, sort) == p ? 0 : 1000 + hours), set);
                used[p] = false;
            }
        }

        int goes(int p) {
            for (int i = 0; i < bestPlaces.length; i++) {
                if (bestRow[i] == p) {
                    return bestPlaces[i] / 3 * 10 + bestPlaces[i] % 3;
                }
            }
            return NONE;
        }
    }

    private static void mostAgainstAllWays() {
        Random random = new Random(4);
        for (int run = 0; run < 400; run++) {
            FourLorries x = new FourLorries();
            int parts = random.nextInt(run % 40 == 0 ? 13 : 10);
            int kinds = 1 + random.nextInt(3);
            int hours = 1 + random.nextInt(9);
            for (int p = 0; p < parts; p++) {
                x.part(random.nextInt(kinds), random.nextInt(3), 1 + random.nextInt(hours));
            }
            for (int step = 0; step < 3; step++) {
                shake(x, random, parts);
                AllWays all = new AllWays(x);
                way(x, all.bestPlaces.length / 3, all.best / 1000, all.best % 1000, all.bestSet);
                for (int p = 0; p < parts; p++) {
                    Check.due("run " + run + ": goes(" + p + ")", x.goes(p), all.goes(p));
                }
            }
        }
    }

    private static void shake(FourLorries x, Random random, int parts) {
        for (int i = 0; i < parts; i++) {
            int p = random.nextInt(parts);
            switch (random.nextInt(8)) {
                case 0: x.mend(p, false); break;
                case 1: x.mend(p, true); break;
                case 2: x.hide(p, random.nextBoolean()); break;
                default: x.move(p, random.nextInt(4), random.nextInt(3), random.nextInt(12));
            }
        }
    }

    private static void drive() {
        FourLorries x = complete();
        for (int p = 3; p < 6; p++) {
            x.part(0, p - 3, 1);
            x.move(p, 0, p - 3, 0);
        }
        x.part(0, 0, 1);
        x.move(6, 1, 0, 0);
        x.odds(0, 1);
        x.odds(1, 2);
        x.odds(2, 3);
        // Lorry 0 has sorts 0, 1, 2; all parts of lorry 2 are of sort 2, whatever their places.
        for (int lane = 0; lane < 3; lane++) {
            Check.write(x, lane, lane, new int[] {99, 1, 2, 3, 2, 3, 2, 99});
            Check.due("how many break", x.drive(lane, lane, 1, 6 + lane % 2), 2);
            Check.due("fault()", x.fault(), 0);
            int[] good = {0, 1, 0, 1, 1, 1, 1};
            for (int p = 0; p < 7; p++) {
                Check.due("drive: good " + p, x.ofPart(p, 3), good[p]);
            }
            Check.due("lorry 0 runs still", x.runs(), 1);
            x.mend(0, true);
            x.mend(2, true);
        }
        Check.write(x, 0, 0, new int[] {0, 1, 2, 11, 11, 11});
        Check.due("below the odds of each sort", x.drive(0, 0, 0, 6), 3);
        Check.due("lorry 2 runs still", x.runs(), 4);
        Check.due("only those that run", x.drive(0, 0, 3, 3), 0);
        Check.due("no lorry that runs needs none", new FourLorries().drive(0, 0, 0, 0), -11);
    }

    private static void refusalsOfDrive() {
        FourLorries x = complete();
        Check.due("no such sheet", x.drive(4, 3, -1, -1), UNKNOWN);
        Check.due("no such sheet", x.drive(-1, 0, 0, 3), UNKNOWN);
        Check.due("no such lane", x.drive(0, 3, -1, -1), OUTSIDE);
        Check.due("no such lane", x.drive(0, -1, 0, 3), OUTSIDE);
        Check.due("nothing", x.drive(0, 2, -1, -1), -11);
        Check.due("nothing: fault()", x.fault(), 1);
        x.sheet(0, 1, 4);
        Check.due("cast", x.drive(0, 2, -1, -1), -12);
        Check.due("cast: fault()", x.fault(), 2);
        Check.due("size", x.drive(0, 1, -1, -1), -14);
        Check.due("size: fault()", x.fault(), 4);
        Check.due("index", x.drive(0, 1, -1, 0), -13);
        Check.due("index", x.drive(0, 1, 5, 0), -13);
        Check.due("index", x.drive(0, 1, 2, 3), -13);
        Check.due("index: fault()", x.fault(), 3);
        Check.due("too few", x.drive(0, 1, 0, 2), OUTSIDE);
        Check.due("too few: fault()", x.fault(), 0);
        x.put(0, 2, 12);
        Check.due("a draw above 11", x.drive(0, 1, 0, 3), OUTSIDE);
        x.put(0, 2, -1);
        Check.due("a draw below 0", x.drive(0, 1, 0, 3), OUTSIDE);
        Check.due("nothing broke", x.many(2), 3);
        x.put(0, 2, 11);
        x.put(0, 3, 12);
        Check.due("more are not looked at", x.drive(0, 1, 0, 4), 2);
    }
}
