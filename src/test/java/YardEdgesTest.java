import java.util.function.Supplier;

/** The boundary cases of promises 12 to 24: the yard. */
public final class YardEdgesTest {
    private static final int UNKNOWN = FourLorries.UNKNOWN, OUTSIDE = FourLorries.OUTSIDE, STATE = FourLorries.STATE;
    private static final int FULL = FourLorries.FULL, NONE = FourLorries.NONE;
    private static final int MIN = Edges.MIN, MAX = Edges.MAX, LEFT = Edges.LEFT;

    public static void main(String[] args) {
        boundsOfPart();
        roomForParts();
        ofPart();
        at();
        fits();
        orderOfMove();
        statesOfMove();
        draws();
        moveToTheCrate();
        mend();
        hide();
        spoils();
        odds();
        runs();
        most();
        goes();
        goesOfTwelve();
        orderOfDrive();
        cellsOfDrive();
        drawsOfDrive();
        oddsOfDrive();
        driveOfNone();
        driveOfAll();
        Check.end("YardEdgesTest");
    }

    private static FourLorries parts(int count) {
        FourLorries x = new FourLorries();
        for (int p = 0; p < count; p++) {
            x.part(p % 3, p / 3 % 3, 1 + p % 9);
        }
        return x;
    }

    private static void boundsOfPart() {
        for (int kind : Edges.outside(0, 2)) {
            Edges.refused("promise 12, no kind " + kind, () -> parts(11), x -> x.part(kind, 0, 1), OUTSIDE, LEFT);
        }
        for (int sort : Edges.outside(0, 2)) {
            Edges.refused("promise 12, no sort " + sort, () -> parts(11), x -> x.part(0, sort, 1), OUTSIDE, LEFT);
        }
        for (int hours : Edges.outside(1, 9)) {
            Edges.refused("promise 12, no hours " + hours, () -> parts(11), x -> x.part(2, 2, hours), OUTSIDE, LEFT);
        }
        for (int k = 0; k < 3; k++) {
            for (int s = 0; s < 3; s++) {
                for (int h = 1; h <= 9; h++) {
                    FourLorries x = new FourLorries();
                    int[] due = {k, s, h, 1, NONE, NONE, 0};
                    Edges.taken("promise 12, a part", x, y -> y.part(due[0], due[1], due[2]), 0, false);
                    for (int what = 0; what <= 6; what++) {
                        Check.due("promise 13, ofPart(0, " + what + ") of a new one", x.ofPart(0, what), due[what]);
                    }
                }
            }
        }
    }

    private static void roomForParts() {
        FourLorries x = new FourLorries();
        for (int p = 0; p < 12; p++) {
            Edges.taken("promise 12, part " + p, x, y -> y.part(0, 0, 1), p, false);
            Check.due("promise 35, parts", x.many(1), p + 1);
        }
        Edges.refused("promise 12, a 13th", () -> parts(12), y -> y.part(2, 2, 9), FULL, LEFT);
        Edges.refused("promise 12, a 13th of no kind", () -> parts(12), y -> y.part(3, 0, 1), OUTSIDE, LEFT);
        Edges.refused("promise 12, a 13th of no sort", () -> parts(12), y -> y.part(0, 3, 1), OUTSIDE, LEFT);
        Edges.refused("promise 12, a 13th of no hours", () -> parts(12), y -> y.part(0, 0, 10), OUTSIDE, LEFT);
    }

    private static void ofPart() {
        for (int count = 0; count <= 12; count += 6) {
            int parts = count;
            for (int p : Edges.outside(0, count - 1)) {
                Edges.refused("promise 13, no part " + p, () -> parts(parts), x -> x.ofPart(p, 0), UNKNOWN, LEFT);
                Edges.refused("promise 13, UNKNOWN ahead of OUTSIDE", () -> parts(parts), x -> x.ofPart(p, 7), UNKNOWN, LEFT);
            }
        }
        for (int what : Edges.outside(0, 6)) {
            Edges.refused("promise 13, no what " + what, () -> parts(12), x -> x.ofPart(11, what), OUTSIDE, LEFT);
        }
        for (int place = 0; place < 12; place++) {
            FourLorries x = parts(3);
            x.move(2, place / 3, place % 3, 11);
            Check.due("promise 13, the lorry", x.ofPart(2, 4), place / 3);
            Check.due("promise 13, the place's sort, not the part's", x.ofPart(2, 5), place % 3);
            Check.due("promise 13, its own sort stays", x.ofPart(2, 1), 0);
        }
    }

    private static void at() {
        Supplier<FourLorries> made = () -> parts(12);
        for (int lorry : Edges.outside(0, 3)) {
            Edges.refused("promise 14, no lorry " + lorry, made, x -> x.at(lorry, 0), UNKNOWN, LEFT);
        }
        Edges.refused("promise 14, the crate is no lorry", made, x -> x.at(NONE, 0), UNKNOWN, LEFT);
        for (int sort : Edges.outside(0, 2)) {
            Edges.refused("promise 14, no sort " + sort, made, x -> x.at(0, sort), UNKNOWN, LEFT);
            Edges.refused("promise 14, no sort " + sort + " of the last", made, x -> x.at(3, sort), UNKNOWN, LEFT);
        }
        for (int place = 0; place < 12; place++) {
            int lorry = place / 3;
            int sort = place % 3;
            Edges.refused("promise 14, an empty place", made, x -> x.at(lorry, sort), NONE, LEFT);
            FourLorries x = made.get();
            x.move(2, lorry, sort, 11);
            for (int other = 0; other < 12; other++) {
                Check.due("promise 14, at", x.at(other / 3, other % 3), other == place ? 2 : NONE);
            }
        }
    }

    private static void fits() {
        Supplier<FourLorries> made = () -> parts(9);
        for (int p : Edges.outside(0, 8)) {
            Edges.refused("promise 15, no part " + p, made, x -> x.fits(p, 0), UNKNOWN, LEFT);
        }
        for (int sort : Edges.outside(0, 2)) {
            Edges.refused("promise 15, no sort " + sort, made, x -> x.fits(2, sort), UNKNOWN, LEFT);
        }
        for (int kind = 0; kind < 3; kind++) {
            for (int sort = 0; sort < 3; sort++) {
                for (int hours = 1; hours <= 9; hours += 8) {
                    FourLorries x = new FourLorries();
                    x.part(kind, sort, hours);
                    int[] due = new int[3];
                    due[sort] = hours;
                    due[(sort + 1) % 3] = kind == 0 ? NONE : kind == 1 ? hours + 2 : hours + 1;
                    due[(sort + 2) % 3] = kind == 2 ? hours + 1 : NONE;
                    for (int place = 0; place < 3; place++) {
                        Check.due("promise 15, kind " + kind + " of " + sort + " for " + place, x.fits(0, place), due[place]);
                        int moved = x.move(0, 3, place, 11);
                        Check.due("promise 16, kind " + kind + " of " + sort + " for " + place, moved, due[place] == NONE ? STATE : due[place]);
                        x.move(0, NONE, 0, 11);
                    }
                }
            }
        }
    }

    /** Part 0 stands in place 0 of lorry 0, part 1 is in the crate and fits places 0 and 1, part 2 is hidden. */
    private static FourLorries forMoves() {
        FourLorries x = new FourLorries();
        x.part(0, 0, 3);
        x.part(1, 0, 9);
        x.part(2, 0, 5);
        x.move(0, 0, 0, 0);
        x.hide(2, true);
        x.spoils(12);
        return x;
    }

    /** All that may be wrong with a call of move, together in all ways. */
    private static void orderOfMove() {
        for (int p : new int[] {MIN, -1, 0, 1, 2, 3, MAX}) {
            for (int lorry : new int[] {MIN, -10, NONE, -8, -1, 0, 3, 4, MAX}) {
                for (int sort : new int[] {MIN, NONE, -1, 0, 1, 2, 3, MAX}) {
                    for (int draw : new int[] {MIN, -1, 0, 11, 12, MAX}) {
                        oneOrderOfMove(p, lorry, sort, draw);
                    }
                }
            }
        }
    }

    private static void oneOrderOfMove(int p, int lorry, int sort, int draw) {
        String what = "promise 16, move(" + p + ", " + lorry + ", " + sort + ", " + draw + ")";
        boolean toCrate = lorry == NONE;
        int due;
        if (p < 0 || p > 2 || !toCrate && (lorry < 0 || lorry > 3 || sort < 0 || sort > 2)) {
            due = UNKNOWN;
        } else if (draw < 0 || draw > 11) {
            due = OUTSIDE;
        } else if (p == 2 || toCrate) {
            due = p == 0 ? 0 : STATE;
        } else if (sort == 0) {
            due = lorry == 0 ? STATE : p == 0 ? 3 : 9;
        } else {
            due = sort == 1 && p == 1 ? 11 : STATE;
        }
        if (due < 0) {
            Edges.refused(what, YardEdgesTest::forMoves, x -> x.move(p, lorry, sort, draw), due, LEFT);
            return;
        }
        FourLorries x = forMoves();
        Edges.taken(what, x, y -> y.move(p, lorry, sort, draw), due, false);
        Check.due(what + ": the lorry", x.ofPart(p, 4), lorry);
        Check.due(what + ": the place's sort", x.ofPart(p, 5), toCrate ? NONE : sort);
        Check.due(what + ": where it was", x.at(0, 0), p == 0 ? NONE : 0);
        // SPOILS is 12: whatever the draw, what is taken off breaks, and what comes out of the crate does not.
        Check.due(what + ": good", x.ofPart(p, 3), p == 0 ? 0 : 1);
    }

    /** Where a part stands it is there, whether or not it is good, and whoever else wants the place. */
    private static void statesOfMove() {
        Supplier<FourLorries> made = YardEdgesTest::forMoves;
        Edges.refused("promise 16, it is there", made, x -> x.move(0, 0, 0, 11), STATE, LEFT);
        Edges.refused("promise 16, it is in the crate", made, x -> x.move(1, NONE, 0, 11), STATE, LEFT);
        Edges.refused("promise 16, it is hidden in the crate", made, x -> x.move(2, NONE, 0, 11), STATE, LEFT);
        Edges.refused("promise 16, hidden, and the place is not free", made, x -> x.move(2, 0, 0, 0), STATE, LEFT);
        Supplier<FourLorries> broken = () -> {
            FourLorries x = forMoves();
            x.mend(0, false);
            x.hide(2, false);
            return x;
        };
        Edges.refused("promise 16, a broken one is in the way, too", broken, x -> x.move(1, 0, 0, 0), STATE, LEFT);
        Edges.refused("promise 16, for one that was shown, too", broken, x -> x.move(2, 0, 0, 0), STATE, LEFT);
        FourLorries x = broken.get();
        Check.due("promise 16, shown again it is moved", x.move(2, 0, 2, 0), 6);
        Check.due("promise 16, a broken one is moved", x.move(0, 1, 0, 0), 3);
        Check.due("promise 16, the place it left is free", x.move(1, 0, 0, 0), 9);
        Check.due("promise 16, and so on", x.move(1, 0, 1, 0), 11);
    }

    /** A draw below SPOILS breaks a good one that is taken off, for each of both at their ends. */
    private static void draws() {
        for (int spoils = 0; spoils <= 12; spoils++) {
            for (int draw = 0; draw <= 11; draw++) {
                for (int lorry : new int[] {NONE, 3}) {
                    FourLorries x = forMoves();
                    x.spoils(spoils);
                    String what = "promise 16, draw " + draw + ", SPOILS " + spoils + ", to " + lorry;
                    Check.due(what, x.move(0, lorry, 0, draw), lorry == NONE ? 0 : 3);
                    Check.due(what + ": good", x.ofPart(0, 3), draw < spoils ? 0 : 1);
                    Check.due(what + ": moved still", x.ofPart(0, 4), lorry);
                    Check.due(what + ": out of the crate", x.move(1, 0, 0, draw), 9);
                    Check.due(what + ": out of the crate good", x.ofPart(1, 3), 1);
                }
            }
        }
        FourLorries x = forMoves();
        x.mend(0, false);
        x.spoils(0);
        x.move(0, 1, 0, 11);
        Check.due("promise 16, a broken one stays broken", x.ofPart(0, 3), 0);
    }

    private static void moveToTheCrate() {
        for (int sort : new int[] {MIN, -1, 0, 1, 2, 3, MAX}) {
            FourLorries x = forMoves();
            Edges.taken("promise 16, the sort is not looked at", x, y -> y.move(0, NONE, sort, 0), 0, false);
            Check.due("promise 16, in the crate", x.ofPart(0, 4), NONE);
            Check.due("promise 16, in the crate, no place", x.ofPart(0, 5), NONE);
            Check.due("promise 16, the place is free", x.at(0, 0), NONE);
            Check.due("promise 16, there already", x.move(0, NONE, sort, 0), STATE);
        }
    }

    private static void mend() {
        for (boolean good : new boolean[] {false, true}) {
            for (int p : Edges.outside(0, 2)) {
                Edges.refused("promise 17, no part " + p, YardEdgesTest::forMoves, x -> x.mend(p, good), UNKNOWN, LEFT);
            }
        }
        for (int part = 0; part < 3; part++) {
            int p = part;
            Edges.refused("promise 17, it was good", YardEdgesTest::forMoves, x -> x.mend(p, true), 0, LEFT);
            FourLorries x = forMoves();
            Edges.taken("promise 17, it breaks", x, y -> y.mend(p, false), 1, false);
            Check.due("promise 17, it is broken", x.ofPart(p, 3), 0);
            Edges.taken("promise 17, it was broken", x, y -> y.mend(p, false), 0, false);
            Check.due("promise 17, it is broken still", x.ofPart(p, 3), 0);
            Edges.taken("promise 17, it becomes good", x, y -> y.mend(p, true), 1, false);
            Edges.same("promise 17, all is as it was", Edges.state(x), Edges.state(forMoves()));
        }
    }

    private static void hide() {
        for (boolean hidden : new boolean[] {false, true}) {
            for (int p : Edges.outside(0, 2)) {
                Edges.refused("promise 18, no part " + p, YardEdgesTest::forMoves, x -> x.hide(p, hidden), UNKNOWN, LEFT);
            }
            Edges.refused("promise 18, not in the crate", YardEdgesTest::forMoves, x -> x.hide(0, hidden), STATE, LEFT);
        }
        Edges.refused("promise 18, it was shown", YardEdgesTest::forMoves, x -> x.hide(1, false), 0, LEFT);
        Edges.refused("promise 18, it was hidden", YardEdgesTest::forMoves, x -> x.hide(2, true), 0, LEFT);
        FourLorries x = forMoves();
        Edges.taken("promise 18, hidden", x, y -> y.hide(1, true), 1, false);
        Check.due("promise 18, is hidden", x.ofPart(1, 6), 1);
        Edges.taken("promise 18, shown", x, y -> y.hide(1, false), 1, false);
        Edges.same("promise 18, all is as it was", Edges.state(x), Edges.state(forMoves()));
        x = forMoves();
        x.move(0, NONE, 0, 0);
        Check.due("promise 18, once in the crate, a broken one, too", x.hide(0, true), 1);
        Check.due("promise 18, and shown", x.hide(0, false), 1);
    }

    private static void spoils() {
        for (int v : Edges.outside(0, 12)) {
            Edges.refused("promise 19, no SPOILS of " + v, YardEdgesTest::forMoves, x -> x.spoils(v), OUTSIDE, LEFT);
        }
        FourLorries x = new FourLorries();
        int was = 3;
        for (int v = 0; v <= 12; v++) {
            int to = v;
            Edges.taken("promise 19, SPOILS of " + v, x, y -> y.spoils(to), was, false);
            was = v;
        }
    }

    private static void odds() {
        for (int v : Edges.outside(0, 12)) {
            for (int sort : Edges.outside(0, 2)) {
                Edges.refused("promise 20, UNKNOWN ahead of OUTSIDE", YardEdgesTest::forMoves, x -> x.odds(sort, v), UNKNOWN, LEFT);
                Edges.refused("promise 20, no sort " + sort, YardEdgesTest::forMoves, x -> x.odds(sort, 0), UNKNOWN, LEFT);
            }
            for (int s = 0; s < 3; s++) {
                int sort = s;
                Edges.refused("promise 20, no ODDS of " + v, YardEdgesTest::forMoves, x -> x.odds(sort, v), OUTSIDE, LEFT);
            }
        }
        FourLorries x = new FourLorries();
        int[] was = {2, 2, 2};
        for (int v = 0; v <= 12; v++) {
            for (int sort = 2; sort >= 0; sort--) {
                int of = sort;
                int to = (v + sort) % 13;
                Edges.taken("promise 20, ODDS of " + to, x, y -> y.odds(of, to), was[sort], false);
                was[sort] = to;
            }
        }
    }

    /** Lorries told as a set are complete; 12 common parts are there. */
    private static FourLorries complete(int set) {
        FourLorries x = new FourLorries();
        for (int p = 0; p < 12; p++) {
            x.part(2, p % 3, 1 + p % 9);
            if ((set >> p / 3 & 1) == 1) {
                x.move(p, p / 3, p % 3, 0);
            }
        }
        return x;
    }

    private static void runs() {
        for (int i = 0; i < 16; i++) {
            int set = i;
            Edges.refused("promise 21, runs", () -> complete(set), x -> x.runs(), set, LEFT);
        }
        for (int p = 0; p < 12; p++) {
            FourLorries x = complete(15);
            x.mend(p, false);
            Check.due("promise 21, with one broken", x.runs(), 15 - (1 << p / 3));
            x.mend(p, true);
            x.move(p, NONE, 0, 11);
            Check.due("promise 21, with one place empty", x.runs(), 15 - (1 << p / 3));
        }
    }

    private static void way(FourLorries x, int... due) {
        for (int i = 0; i < 4; i++) {
            int what = i;
            Edges.taken("promise 22, most(" + what + ")", x, y -> y.most(what), due[what], false);
        }
    }

    private static void most() {
        for (int what : Edges.outside(0, 3)) {
            Edges.refused("promise 22, no what " + what, () -> complete(5), x -> x.most(what), OUTSIDE, LEFT);
            Edges.refused("promise 22, no what " + what + " without parts", FourLorries::new, x -> x.most(what), OUTSIDE, LEFT);
        }
        way(new FourLorries(), 0, 0, 0, 0);
        for (int set = 0; set < 16; set++) {
            FourLorries x = complete(set);
            for (int what = 0; what < 4; what++) {
                int[] due = {4, 12 - 3 * Integer.bitCount(set), 0, 15};
                if (what != 2) {
                    Check.due("promise 22, most(" + what + ") with " + set, x.most(what), due[what]);
                }
            }
        }
        FourLorries two = parts(2);
        way(two, 0, 0, 0, 0);
        // Common ones of sort 0, one wanting: two for another sort have an hour more each.
        FourLorries x = new FourLorries();
        x.part(2, 0, 9);
        x.part(2, 0, 9);
        way(x, 0, 0, 0, 0);
        x.part(2, 0, 9);
        way(x, 1, 3, 29, 1);
        x.move(2, 3, 2, 11);
        way(x, 1, 2, 19, 8);
        x.mend(2, false);
        way(x, 0, 0, 0, 0);
        x.mend(2, true);
        x.move(2, NONE, 0, 11);
        x.hide(2, true);
        way(x, 0, 0, 0, 0);
        x.hide(2, false);
        way(x, 1, 3, 29, 1);
        // A broken one in the way goes to the crate for nothing; the least set of several.
        x.part(0, 1, 1);
        x.mend(3, false);
        x.move(3, 0, 1, 11);
        way(x, 1, 3, 29, 1);
        Check.due("promise 23, the broken one goes nowhere", x.goes(3), NONE);
    }

    private static void goes() {
        for (int count = 0; count <= 12; count += 4) {
            int parts = count;
            for (int p : Edges.outside(0, count - 1)) {
                Edges.refused("promise 23, no part " + p, () -> parts(parts), x -> x.goes(p), UNKNOWN, LEFT);
            }
        }
        FourLorries x = complete(15);
        for (int p = 0; p < 12; p++) {
            Check.due("promise 23, it stays", x.goes(p), p / 3 * 10 + p % 3);
        }
        // Alike in all: of three of four parts the first as a row, in the least lorry.
        FourLorries y = new FourLorries();
        for (int p = 0; p < 4; p++) {
            y.part(2, 0, 1);
        }
        int[] due = {0, 1, 2, NONE};
        for (int i = 0; i < 4; i++) {
            int p = i;
            Edges.taken("promise 23, the first as a row", y, z -> z.goes(p), due[p], false);
        }
        y.mend(0, false);
        int[] without = {NONE, 0, 1, 2};
        for (int p = 0; p < 4; p++) {
            Check.due("promise 23, without a broken one", y.goes(p), without[p]);
        }
        y.mend(0, true);
        y.hide(1, true);
        int[] hidden = {0, NONE, 1, 2};
        for (int p = 0; p < 4; p++) {
            Check.due("promise 23, without a hidden one", y.goes(p), hidden[p]);
        }
        y.hide(2, true);
        for (int p = 0; p < 4; p++) {
            Check.due("promise 23, too few", y.goes(p), NONE);
        }
    }

    /** All 12 parts are wanted, and the last of them for the first places: the greatest row that there is. */
    private static void goesOfTwelve() {
        FourLorries x = new FourLorries();
        for (int p = 0; p < 12; p++) {
            x.part(0, 2 - p / 4, 9);
        }
        way(x, 4, 12, 12 * 9, 15);
        for (int p = 0; p < 12; p++) {
            Check.due("promise 23, part " + p + " of twelve", x.goes(p), p % 4 * 10 + 2 - p / 4);
        }
        for (int p = 0; p < 12; p++) {
            x.move(p, 3 - p % 4, 2 - p / 4, 11);
        }
        way(x, 4, 0, 0, 15);
        for (int p = 0; p < 12; p++) {
            Check.due("promise 23, part " + p + " of twelve stays", x.goes(p), (3 - p % 4) * 10 + 2 - p / 4);
        }
        x.mend(0, false);
        way(x, 3, 0, 0, 7);
        Check.due("promise 23, what stays behind in a lorry goes nowhere", x.goes(4), NONE);
    }

    /** Lorry 2 runs by three parts; sheet 0 has draws, sheet 1 has one that is none, sheet 2 has nothing. */
    private static FourLorries forDrives() {
        FourLorries x = new FourLorries();
        for (int p = 0; p < 3; p++) {
            x.part(0, p, 1);
            x.move(p, 2, p, 0);
            x.odds(p, 12);
        }
        Check.write(x, 0, 1, new int[] {99, 0, 5, 11, 99});
        Check.write(x, 1, 1, new int[] {99, 0, 5, 12, 99});
        return x;
    }

    /** All that may be wrong with a call of drive, together in all ways. */
    private static void orderOfDrive() {
        for (int sheet : new int[] {-1, 0, 1, 2, 4}) {
            for (int lane : new int[] {-1, 0, 1, 2, 3}) {
                for (int n : new int[] {-1, 0, 2, 3, 4, 5}) {
                    for (int i : new int[] {-1, 1, 3, 6}) {
                        oneOrderOfDrive(sheet, lane, i, n);
                    }
                }
            }
        }
    }

    private static void oneOrderOfDrive(int sheet, int lane, int i, int n) {
        String what = "promise 24, drive(" + sheet + ", " + lane + ", " + i + ", " + n + ")";
        int due;
        if (sheet < 0 || sheet > 3) {
            due = UNKNOWN;
        } else if (lane < 0 || lane > 2) {
            due = OUTSIDE;
        } else if (sheet == 2) {
            due = -11;
        } else if (lane != 1) {
            due = -12;
        } else if (n < 0) {
            due = -14;
        } else if (i < 0 || i + n > 5) {
            due = -13;
        } else {
            due = n < 3 || sheet == 1 || i != 1 ? OUTSIDE : 3;
        }
        if (due < 0) {
            int fault = due <= -11 ? -10 - due : 0;
            Edges.refused(what, YardEdgesTest::forDrives, x -> x.drive(sheet, lane, i, n), due, fault);
        } else {
            FourLorries x = forDrives();
            Edges.taken(what, x, y -> y.drive(sheet, lane, i, n), due, true);
            Check.due(what + ": all broke", x.many(2), 0);
        }
    }

    /** The rows have 5 cells. */
    private static void cellsOfDrive() {
        Supplier<FourLorries> made = YardEdgesTest::forDrives;
        for (int sheet : Edges.outside(0, 3)) {
            Edges.refused("promise 24, no sheet " + sheet, made, x -> x.drive(sheet, 1, 1, 3), UNKNOWN, 0);
        }
        for (int lane : Edges.outside(0, 2)) {
            Edges.refused("promise 24, no lane " + lane, made, x -> x.drive(0, lane, 1, 3), OUTSIDE, 0);
        }
        for (int n : new int[] {-1, -2, MIN}) {
            Edges.refused("promise 24, a length of " + n, made, x -> x.drive(0, 1, 1, n), -14, 4);
            Edges.refused("promise 24, a length of " + n + " from MIN on", made, x -> x.drive(0, 1, MIN, n), -14, 4);
        }
        for (int i : Edges.outside(0, 5)) {
            Edges.refused("promise 24, none from " + i + " on", made, x -> x.drive(0, 1, i, 0), -13, 3);
        }
        int[][] beyond = {{0, 6}, {1, 5}, {4, 2}, {5, 1}, {6, 1}, {0, MAX}, {1, MAX}, {MAX, 1}, {MAX, 3}, {MAX, MAX}, {-1, 3}, {MIN, MAX}};
        for (int[] cells : beyond) {
            Edges.refused("promise 24, " + cells[1] + " cells from " + cells[0] + " on", made,
                x -> x.drive(0, 1, cells[0], cells[1]), -13, 3);
        }
        for (int n = 0; n <= 2; n++) {
            int few = n;
            Edges.refused("promise 24, " + n + " draws are too few", made, x -> x.drive(0, 1, 1, few), OUTSIDE, 0);
        }
        Edges.refused("promise 24, none at the row's end is too few", made, x -> x.drive(0, 1, 5, 0), OUTSIDE, 0);
        Supplier<FourLorries> empty = () -> {
            FourLorries x = forDrives();
            x.sheet(0, 1, 0);
            return x;
        };
        Edges.refused("promise 24, an empty row is too few", empty, x -> x.drive(0, 1, 0, 0), OUTSIDE, 0);
        Edges.refused("promise 24, a cell of an empty row", empty, x -> x.drive(0, 1, 0, 1), -13, 3);
        Edges.refused("promise 24, behind an empty row", empty, x -> x.drive(0, 1, 1, 0), -13, 3);
    }

    private static FourLorries withDraws(int lane, int... draws) {
        FourLorries x = forDrives();
        Check.write(x, 0, lane, draws);
        return x;
    }

    /** Each of the draws that are looked at is 0 .. 11; a refusal breaks not even the parts ahead of it. */
    private static void drawsOfDrive() {
        for (int place = 0; place < 3; place++) {
            for (int draw : new int[] {MIN, -1, 12, 13, 256, 65536, MAX}) {
                int[] draws = {0, 0, 0};
                draws[place] = draw;
                Edges.refused("promise 24, no draw " + draw + " at " + place, () -> withDraws(2, draws), x -> x.drive(0, 2, 0, 3), OUTSIDE, 0);
            }
            for (int draw = 0; draw <= 11; draw++) {
                int[] draws = {0, 0, 0};
                draws[place] = draw;
                Edges.taken("promise 24, a draw of " + draw, withDraws(2, draws), x -> x.drive(0, 2, 0, 3), 3, true);
            }
        }
        for (int draw : new int[] {MIN, -1, 12, MAX}) {
            Edges.taken("promise 24, more are not looked at", withDraws(2, 0, 0, 0, draw), x -> x.drive(0, 2, 0, 4), 3, true);
            Edges.taken("promise 24, nor those ahead", withDraws(2, draw, 0, 0, 0), x -> x.drive(0, 2, 1, 3), 3, true);
        }
        Edges.taken("promise 24, what a byte has cut is a draw", withDraws(0, 256, 512, 267), x -> x.drive(0, 0, 0, 3), 3, true);
        Edges.refused("promise 24, what a short has not is none", () -> withDraws(1, 256, 0, 0), x -> x.drive(0, 1, 0, 3), OUTSIDE, 0);
        Edges.taken("promise 24, what a short has cut is a draw", withDraws(1, 65536, 0, 65547), x -> x.drive(0, 1, 0, 3), 3, true);
        Edges.refused("promise 24, what an int has not is none", () -> withDraws(2, 65536, 0, 0), x -> x.drive(0, 2, 0, 3), OUTSIDE, 0);
    }

    private static void oddsOfDrive() {
        for (int odds = 0; odds <= 12; odds++) {
            for (int draw = 0; draw <= 11; draw++) {
                FourLorries x = withDraws(0, draw, draw, draw);
                x.odds(0, 0);
                x.odds(1, odds);
                x.odds(2, 0);
                Check.due("promise 24, draw " + draw + ", ODDS " + odds, x.drive(0, 0, 0, 3), draw < odds ? 1 : 0);
                Check.due("promise 24, it broke", x.ofPart(1, 3), draw < odds ? 0 : 1);
                Check.due("promise 24, others did not", x.ofPart(0, 3) + x.ofPart(2, 3), 2);
                Check.due("promise 24, it is in its place still", x.at(2, 1), 1);
                Check.due("promise 24, runs", x.runs(), draw < odds ? 0 : 4);
            }
        }
    }

    private static void driveOfNone() {
        Supplier<FourLorries> made = () -> {
            FourLorries x = forDrives();
            x.mend(1, false);
            return x;
        };
        Edges.refused("promise 24, none runs, no draws", made, x -> x.drive(0, 1, 5, 0), 0, 0);
        Edges.refused("promise 24, none runs, none is looked at", made, x -> x.drive(0, 1, 0, 5), 0, 0);
        Edges.refused("promise 24, none runs, nothing still", made, x -> x.drive(2, 1, 0, 0), -11, 1);
        Edges.refused("promise 24, none runs, beyond still", made, x -> x.drive(0, 1, 6, 0), -13, 3);
        Edges.refused("promise 24, none runs, below 0 still", made, x -> x.drive(0, 1, 0, -1), -14, 4);
        Supplier<FourLorries> empty = () -> {
            FourLorries x = new FourLorries();
            x.sheet(0, 0, 0);
            return x;
        };
        Edges.refused("promise 24, no parts, an empty row", empty, x -> x.drive(0, 0, 0, 0), 0, 0);
    }

    private static void driveOfAll() {
        int[] draws = new int[60];
        java.util.Arrays.fill(draws, 11);
        Supplier<FourLorries> made = () -> {
            FourLorries x = complete(15);
            Check.write(x, 3, 0, draws);
            for (int sort = 0; sort < 3; sort++) {
                x.odds(sort, 11);
            }
            return x;
        };
        Edges.refused("promise 24, 11 are too few for four lorries", made, x -> x.drive(3, 0, 0, 11), OUTSIDE, 0);
        Edges.refused("promise 24, 12 up to the row's end", made, x -> x.drive(3, 0, 48, 12), 0, 0);
        Edges.refused("promise 24, one beyond the row's end", made, x -> x.drive(3, 0, 49, 12), -13, 3);
        for (int p = 0; p < 12; p++) {
            FourLorries x = made.get();
            x.put(3, 48 + p, 10);
            Check.due("promise 24, one draw after another, by lorries, then by sorts", x.drive(3, 0, 48, 12), 1);
            Check.due("promise 24, part " + p + " broke", x.ofPart(p, 3), 0);
            Check.due("promise 24, its lorry stays at home", x.runs(), 15 - (1 << p / 3));
        }
    }
}
