import java.util.function.Supplier;

/** The boundary cases of promises 25 to 35: sheets, and parts as they are told. */
public final class SheetEdgesTest {
    private static final int UNKNOWN = FourLorries.UNKNOWN, OUTSIDE = FourLorries.OUTSIDE, NONE = FourLorries.NONE;
    private static final int MIN = Edges.MIN, MAX = Edges.MAX, LEFT = Edges.LEFT;
    private static final long LOST = FourLorries.LOST;
    private static final int[] LEAST = {-128, -32768, MIN};
    private static final int[] GREATEST = {127, 32767, MAX};

    public static void main(String[] args) {
        orderOfSheet();
        rowsOfSheet();
        lose();
        orderOfPut();
        lanesOfPut();
        orderOfCell();
        orderOfCopy();
        cellsOfCopy();
        copyOnItself();
        copyOfLanes();
        tellAndList();
        as();
        traceWraps();
        faultOfEachCall();
        many();
        Check.end("SheetEdgesTest");
    }

    /** Sheet 0 has three bytes, 1 has two shorts, 2 an empty row of ints, 3 nothing; parts 0, 1, 2 of kinds 0, 1, 2. */
    private static FourLorries filled() {
        FourLorries x = new FourLorries();
        Check.write(x, 0, 0, new int[] {-128, 1, 127});
        Check.write(x, 1, 1, new int[] {-32768, 32767});
        x.sheet(2, 2, 0);
        for (int kind = 0; kind < 3; kind++) {
            x.part(kind, kind, 9);
        }
        x.list(2);
        return x;
    }

    private static int faultOf(int answer) {
        return answer <= -11 ? -10 - answer : 0;
    }

    /** All that may be wrong with a call of sheet, together in all ways. */
    private static void orderOfSheet() {
        for (int k : new int[] {MIN, -1, 0, 2, 3, 4, 256, MAX}) {
            for (int lane : new int[] {MIN, -1, 0, 1, 2, 3, 256, MAX}) {
                for (int n : new int[] {MIN, -1, 0, 1, 60, 61, 256, MAX}) {
                    oneOrderOfSheet(k, lane, n);
                }
            }
        }
    }

    private static void oneOrderOfSheet(int k, int lane, int n) {
        String what = "promise 25, sheet(" + k + ", " + lane + ", " + n + ")";
        int due;
        if (k < 0 || k > 3) {
            due = UNKNOWN;
        } else if (lane < 0 || lane > 2 || n > 60) {
            due = OUTSIDE;
        } else {
            due = n < 0 ? -14 : 1;
        }
        if (due < 0) {
            Edges.refused(what, SheetEdgesTest::filled, x -> x.sheet(k, lane, n), due, faultOf(due));
            return;
        }
        FourLorries x = filled();
        Edges.taken(what, x, y -> y.sheet(k, lane, n), 1, true);
        Check.yes(what + ": a row of 0s", Edges.rowOf(x, k).equals("of lane " + lane + " 0".repeat(n)));
    }

    private static void rowsOfSheet() {
        for (int k = 0; k < 4; k++) {
            FourLorries x = new FourLorries();
            for (int lane = 0; lane < 3; lane++) {
                x.sheet(k, lane, 60);
                for (int i = 0; i < 60; i++) {
                    Check.due("promise 27, each cell of 60", x.put(k, i, i + 1), 1);
                }
                x.sheet(k, lane, 5);
                Check.yes("promise 25, a shorter row has new cells", Edges.rowOf(x, k).equals("of lane " + lane + " 0 0 0 0 0"));
                x.sheet(k, (lane + 1) % 3, 60);
                Check.yes("promise 25, a longer row, too", Edges.rowOf(x, k).equals("of lane " + (lane + 1) % 3 + " 0".repeat(60)));
                for (int other = 0; other < 4; other++) {
                    Check.yes("promise 25, no other sheet gets one", other == k || Edges.rowOf(x, other).equals("nothing"));
                }
            }
        }
    }

    private static void lose() {
        for (int k : Edges.outside(0, 3)) {
            Edges.refused("promise 26, no sheet " + k, SheetEdgesTest::filled, x -> x.lose(k), UNKNOWN, LEFT);
        }
        Edges.refused("promise 26, it had nothing", SheetEdgesTest::filled, x -> x.lose(3), 0, LEFT);
        for (int sheet = 0; sheet < 3; sheet++) {
            int k = sheet;
            FourLorries x = filled();
            Edges.taken("promise 26, lost", x, y -> y.lose(k), 1, false);
            Check.yes("promise 26, it has nothing", Edges.rowOf(x, k).equals("nothing"));
            Edges.taken("promise 26, lost already", x, y -> y.lose(k), 0, false);
            for (int other = 0; other < 4; other++) {
                Check.yes("promise 26, the others have theirs", other == k || Edges.rowOf(x, other).equals(Edges.rowOf(filled(), other)));
            }
            Check.due("promise 27, nothing to put to", x.put(k, 0, 0), -11);
            Check.due("promise 25, and a new row", x.sheet(k, 2, 2), 1);
            Check.yes("promise 25, of 0s", Edges.rowOf(x, k).equals("of lane 2 0 0"));
        }
    }

    /** All that may be wrong with a call of put, together in all ways. */
    private static void orderOfPut() {
        int[] lengths = {3, 2, 0};
        for (int k : new int[] {MIN, -1, 0, 1, 2, 3, 4, 256, MAX}) {
            for (int i : new int[] {MIN, -1, 0, 1, 2, 3, 60, 256, MAX}) {
                String what = "promise 27, put(" + k + ", " + i + ")";
                int due;
                if (k < 0 || k > 3) {
                    due = UNKNOWN;
                } else if (k == 3) {
                    due = -11;
                } else {
                    due = i < 0 || i >= lengths[k] ? -13 : 1;
                }
                if (due < 0) {
                    Edges.refused(what, SheetEdgesTest::filled, x -> x.put(k, i, 77), due, faultOf(due));
                    continue;
                }
                FourLorries x = filled();
                Edges.taken(what, x, y -> y.put(k, i, 77), 1, true);
                for (int cell = 0; cell < lengths[k]; cell++) {
                    Check.due(what + ": cell " + cell, x.cell(k, cell, k), cell == i ? 77 : filled().cell(k, cell, k));
                }
            }
        }
    }

    private static void lanesOfPut() {
        int[] numbers = {MIN, MIN + 1, -65537, -65536, -32769, -32768, -257, -256, -129, -128, -1, 0, 1, 127, 128, 255, 256, 32767,
            32768, 65535, 65536, MAX - 1, MAX};
        for (int lane = 0; lane < 3; lane++) {
            FourLorries x = new FourLorries();
            x.sheet(1, lane, 60);
            int as = lane;
            for (int v : numbers) {
                long due = lane == 0 ? (byte) v : lane == 1 ? (short) v : v;
                Edges.taken("promise 27, " + v, x, y -> y.put(1, 59, v), 1, true);
                Edges.taken("promise 28, " + v + " in lane " + lane, x, y -> y.cell(1, 59, as), due, true);
            }
            x.put(1, 0, LEAST[lane]);
            Check.due("promise 28, the least", x.cell(1, 0, lane), LEAST[lane]);
            x.put(1, 0, LEAST[lane] - 1);
            Check.due("promise 28, less wraps", x.cell(1, 0, lane), GREATEST[lane]);
            x.put(1, 0, GREATEST[lane] + 1);
            Check.due("promise 28, more wraps", x.cell(1, 0, lane), LEAST[lane]);
        }
    }

    /** All that may be wrong with a call of cell, together in all ways. */
    private static void orderOfCell() {
        int[] lengths = {3, 2, 0};
        for (int k : new int[] {MIN, -1, 0, 1, 2, 3, 4, 256, MAX}) {
            for (int i : new int[] {MIN, -1, 0, 1, 2, 3, 60, 256, MAX}) {
                for (int lane : new int[] {MIN, -1, 0, 1, 2, 3, 256, MAX}) {
                    String what = "promise 28, cell(" + k + ", " + i + ", " + lane + ")";
                    int fault = 0;
                    long due = LOST;
                    if (k >= 0 && k <= 3 && lane >= 0 && lane <= 2) {
                        fault = k == 3 ? 1 : lane != k ? 2 : i < 0 || i >= lengths[k] ? 3 : 0;
                        due = fault != 0 ? LOST : new long[][] {{-128, 1, 127}, {-32768, 32767}}[k][i];
                    }
                    Edges.refused(what, SheetEdgesTest::filled, x -> x.cell(k, i, lane), due, fault);
                }
            }
        }
    }

    /** Sheets 0 and 1 have 4 and 3 ints, sheet 2 has 3 shorts, sheet 3 nothing. */
    private static FourLorries forCopies() {
        FourLorries x = new FourLorries();
        Check.write(x, 0, 2, new int[] {MIN, 2, 3, MAX});
        Check.write(x, 1, 2, new int[] {5, 6, 7});
        Check.write(x, 2, 1, new int[] {8, 9, 10});
        return x;
    }

    /** All that may be wrong with a call of copy, together in all ways. */
    private static void orderOfCopy() {
        int[] sheets = {-1, 0, 1, 2, 3, 4};
        for (int k : sheets) {
            for (int other : sheets) {
                for (int i : new int[] {-1, 0, 3, 4, 5}) {
                    for (int j : new int[] {-1, 0, 2, 3, 4, 5}) {
                        for (int n : new int[] {-1, 0, 1, 3, 4, 5}) {
                            oneOrderOfCopy(k, i, other, j, n);
                        }
                    }
                }
            }
        }
    }

    private static void oneOrderOfCopy(int k, int i, int other, int j, int n) {
        String what = "promise 29, copy(" + k + ", " + i + ", " + other + ", " + j + ", " + n + ")";
        int[] lengths = {4, 3, 3};
        int due;
        if (k < 0 || k > 3 || other < 0 || other > 3) {
            due = UNKNOWN;
        } else if (k == 3 || other == 3) {
            due = -11;
        } else if ((k == 2) != (other == 2)) {
            due = -12;
        } else {
            due = n < 0 || i < 0 || j < 0 || i + n > lengths[k] || j + n > lengths[other] ? -13 : n;
        }
        if (due <= 0) {
            Edges.refused(what, SheetEdgesTest::forCopies, x -> x.copy(k, i, other, j, n), due, faultOf(due));
            return;
        }
        FourLorries x = forCopies();
        FourLorries was = forCopies();
        Edges.taken(what, x, y -> y.copy(k, i, other, j, n), n, true);
        int lane = k == 2 ? 1 : 2;
        for (int cell = 0; cell < lengths[other]; cell++) {
            long cellDue = cell >= j && cell < j + n ? was.cell(k, i + cell - j, lane) : was.cell(other, cell, lane);
            Check.due(what + ": cell " + cell, x.cell(other, cell, lane), cellDue);
        }
        Check.yes(what + ": the first", k == other || Edges.rowOf(x, k).equals(Edges.rowOf(was, k)));
    }

    private static void cellsOfCopy() {
        Supplier<FourLorries> made = SheetEdgesTest::forCopies;
        for (int k : Edges.outside(0, 3)) {
            Edges.refused("promise 29, no sheet " + k, made, x -> x.copy(k, 0, 1, 0, 0), UNKNOWN, 0);
            Edges.refused("promise 29, no other sheet " + k, made, x -> x.copy(1, 0, k, 0, 0), UNKNOWN, 0);
            Edges.refused("promise 29, no other sheet " + k + ", the first has nothing", made, x -> x.copy(3, 0, k, 0, -1), UNKNOWN, 0);
        }
        for (int i : Edges.outside(0, 4)) {
            Edges.refused("promise 29, none from " + i + " on", made, x -> x.copy(0, i, 1, 0, 0), -13, 3);
            Edges.refused("promise 29, none to " + i, made, x -> x.copy(1, 0, 0, i, 0), -13, 3);
        }
        int[][] beyond = {{0, 0, MIN}, {0, 0, MAX}, {4, 3, MAX}, {MAX, 0, 1}, {0, MAX, 1}, {MAX, MAX, MAX}, {MIN, 0, MAX}, {0, MIN, MAX},
            {MIN, MIN, MIN}, {1, 0, MAX}, {0, 1, MAX}, {-1, 0, 2}, {0, -1, 2}, {4, 0, 1}, {0, 3, 1}};
        for (int[] c : beyond) {
            Edges.refused("promise 29, " + c[2] + " from " + c[0] + " to " + c[1], made, x -> x.copy(0, c[0], 1, c[1], c[2]), -13, 3);
        }
        Edges.refused("promise 29, none of an empty row", SheetEdgesTest::filled, x -> x.copy(2, 0, 2, 0, 0), 0, 0);
        Edges.refused("promise 29, one of an empty row", SheetEdgesTest::filled, x -> x.copy(2, 0, 2, 0, 1), -13, 3);
        Edges.refused("promise 29, behind an empty row", SheetEdgesTest::filled, x -> x.copy(2, 1, 2, 0, 0), -13, 3);
        Edges.refused("promise 29, to behind an empty row", SheetEdgesTest::filled, x -> x.copy(2, 0, 2, 1, 0), -13, 3);
        Edges.refused("promise 29, none, but of unlike lanes", SheetEdgesTest::filled, x -> x.copy(2, 0, 1, 0, 0), -12, 2);
        Edges.refused("promise 29, none, but of nothing", SheetEdgesTest::filled, x -> x.copy(3, 0, 3, 0, 0), -11, 1);
    }

    /** On the same sheet the cells go as they were, upwards, downwards, and where they are. */
    private static void copyOnItself() {
        for (int i = 0; i <= 60; i += 7) {
            for (int j = 0; j <= 60; j += 5) {
                FourLorries x = new FourLorries();
                int[] row = new int[60];
                for (int c = 0; c < 60; c++) {
                    row[c] = 100 + c;
                }
                Check.write(x, 3, 2, row);
                int n = 60 - Math.max(i, j);
                Check.due("promise 29, on itself", x.copy(3, i, 3, j, n), n);
                for (int c = 0; c < 60; c++) {
                    Check.due("promise 29, from " + i + " to " + j + ": cell " + c, x.cell(3, c, 2), c >= j && c < j + n ? 100 + i + c - j : 100 + c);
                }
            }
        }
    }

    private static void copyOfLanes() {
        for (int lane = 0; lane < 3; lane++) {
            for (int to = 0; to < 3; to++) {
                FourLorries x = new FourLorries();
                Check.write(x, 0, lane, new int[] {LEAST[lane], GREATEST[lane]});
                x.sheet(1, to, 2);
                Check.due("promise 29, lane " + lane + " to " + to, x.copy(0, 0, 1, 0, 2), lane == to ? 2 : -12);
                Check.due("promise 34, lane " + lane + " to " + to, x.fault(), lane == to ? 0 : 2);
                Check.due("promise 29, the least", x.cell(1, 0, to), lane == to ? LEAST[lane] : 0);
                Check.due("promise 29, the greatest", x.cell(1, 1, to), lane == to ? GREATEST[lane] : 0);
            }
        }
    }

    private static void tellAndList() {
        for (int p : Edges.outside(0, 2)) {
            Edges.refused("promise 30, no part " + p, SheetEdgesTest::filled, x -> x.tell(p), UNKNOWN, LEFT);
            Edges.refused("promise 31, no part " + p, SheetEdgesTest::filled, x -> x.list(p), UNKNOWN, LEFT);
        }
        for (int hours = 1; hours <= 9; hours += 8) {
            int[] told = {hours, hours + 100, hours + 100 + hours};
            int[][] bodies = {{1}, {2, 1}, {3, 2, 1, 1}};
            for (int kind = 0; kind < 3; kind++) {
                FourLorries x = new FourLorries();
                for (int p = 0; p < 11; p++) {
                    x.part(0, 0, 5);
                }
                x.part(kind, 2, hours);
                x.mend(11, false);
                x.hide(11, true);
                Edges.taken("promise 30, kind " + kind, x, y -> y.tell(11), told[kind], false);
                int trace = 0;
                for (int body : bodies[kind]) {
                    trace = 31 * trace + body;
                }
                Check.due("promise 33, kind " + kind + " told", x.trace(), trace);
                Edges.taken("promise 31, kind " + kind, x, y -> y.list(11), kind == 2 ? 60 : 11, false);
                Check.due("promise 33, kind " + kind + " listed", x.trace(), 31 * trace + (kind == 2 ? 5 : 4));
                Edges.taken("promise 31, the first", x, y -> y.list(0), 0, false);
            }
        }
    }

    /** All that may be wrong with a call of as, together in all ways. */
    private static void as() {
        for (int p : new int[] {MIN, -1, 0, 1, 2, 3, 256, MAX}) {
            for (int kind : new int[] {MIN, -1, 0, 1, 2, 3, 256, MAX}) {
                int due;
                if (p < 0 || p > 2) {
                    due = UNKNOWN;
                } else if (kind < 0 || kind > 2) {
                    due = OUTSIDE;
                } else {
                    due = kind <= p ? 1 : -12;
                }
                Edges.refused("promise 32, as(" + p + ", " + kind + ")", SheetEdgesTest::filled, x -> x.as(p, kind), due, faultOf(due));
            }
        }
    }

    /** An int that wraps: by 200 calls it has done so often. */
    private static void traceWraps() {
        FourLorries x = filled();
        long exact = x.trace();
        boolean wrapped = false;
        int[][] bodies = {{1}, {4}, {2, 1}, {4}, {3, 2, 1, 1}, {5}};
        for (int i = 0; i < 200; i++) {
            int which = i % 6;
            if (which % 2 == 0) {
                x.tell(which / 2);
            } else {
                x.list(which / 2);
            }
            for (int body : bodies[which]) {
                exact = 31 * exact + body;
                wrapped |= exact > MAX || exact < MIN;
                exact = (int) exact;
            }
            Edges.taken("promise 33, trace", x, y -> y.trace(), exact, false);
        }
        Check.yes("promise 33, it wrapped", wrapped);
    }

    /** Calls that name FAULTS set fault(), taken or refused; all others leave it. */
    private static void faultOfEachCall() {
        Edges.Call[] leave = {x -> x.ofCamp(0, 0), x -> x.ofCamp(1, 0), x -> x.ofSort(0, 0, 0), x -> x.ofSort(0, 0, 9), x -> x.turn(0, 0, 0, 2),
            x -> x.turn(0, 0, 0, 6), x -> x.value(0, 0, 2, 0), x -> x.value(0, 4, 2, 0), x -> x.value(0, 5, 0, 0), x -> x.today(0, 1, 0),
            x -> x.today(0, 0, 0), x -> x.worth(0, 0, 1), x -> x.worth(1, 0, 1), x -> x.crate(0, 5, 1, 0), x -> x.crate(0, 31, 1, 0),
            x -> x.lent(0, 0, 0, 1), x -> x.both(0, 0, 0, 0, 1), x -> x.part(0, 0, 1), x -> x.part(3, 0, 1), x -> x.ofPart(0, 0),
            x -> x.ofPart(0, 9), x -> x.at(0, 0), x -> x.at(9, 0), x -> x.fits(0, 0), x -> x.fits(9, 0), x -> x.move(0, 0, 0, 0),
            x -> x.move(0, 0, 0, 0), x -> x.mend(0, false), x -> x.mend(9, false), x -> x.hide(1, true), x -> x.hide(0, true),
            x -> x.spoils(1), x -> x.spoils(13), x -> x.odds(0, 1), x -> x.odds(0, 13), x -> x.runs(), x -> x.most(0), x -> x.most(9),
            x -> x.goes(0), x -> x.goes(9), x -> x.lose(3), x -> x.lose(0), x -> x.lose(9), x -> x.tell(0), x -> x.tell(9), x -> x.list(2),
            x -> x.list(9), x -> x.trace(), x -> x.fault(), x -> x.many(0), x -> x.many(9)};
        Edges.Call[] toNone = {x -> x.camp(3, 0, 0, 14), x -> x.camp(3, 0, 0, 13), x -> x.camp(4, 0, 0, 14), x -> x.camp(3, 3, 0, 14),
            x -> x.drive(3, 0, 0, 3), x -> x.drive(4, 0, 0, 3), x -> x.drive(3, 3, 0, 3), x -> x.sheet(1, 0, 3), x -> x.sheet(4, 0, 3),
            x -> x.sheet(1, 0, 61), x -> x.put(3, 0, 0), x -> x.put(4, 0, 0), x -> x.cell(3, 0, 0), x -> x.cell(4, 0, 0), x -> x.cell(3, 0, 3),
            x -> x.copy(3, 0, 3, 0, 1), x -> x.copy(3, 0, 4, 0, 1), x -> x.as(0, 0), x -> x.as(9, 0), x -> x.as(0, 9)};
        for (int fault = 1; fault <= 4; fault++) {
            for (int i = 0; i < leave.length; i++) {
                FourLorries x = withFault(fault);
                leave[i].on(x);
                Check.due("promise 34, call " + i + " of those that name none", x.fault(), fault);
            }
            for (int i = 0; i < toNone.length; i++) {
                FourLorries x = withFault(fault);
                toNone[i].on(x);
                Check.due("promise 34, call " + i + " of those that come to none", x.fault(), 0);
            }
        }
    }

    /** A camp by sheet 3, three parts, and a fault of the latest call. */
    private static FourLorries withFault(int fault) {
        FourLorries x = new FourLorries();
        Check.camp(x, "l1;s1h1e1w1;b1");
        for (int kind = 0; kind < 3; kind++) {
            x.part(kind, 0, 1);
        }
        switch (fault) {
            case 1: x.put(1, 0, 0); break;
            case 2: x.as(0, 2); break;
            case 3: x.put(3, 14, 0); break;
            default: x.sheet(0, 0, -1);
        }
        Check.due("promise 34, fault " + fault, x.fault(), fault);
        Check.due("promise 34, asked again", x.fault(), fault);
        return x;
    }

    private static void many() {
        for (int what : Edges.outside(0, 3)) {
            Edges.refused("promise 35, no what " + what, SheetEdgesTest::filled, x -> x.many(what), OUTSIDE, LEFT);
            Edges.refused("promise 35, no what " + what + " of a new one", FourLorries::new, x -> x.many(what), OUTSIDE, LEFT);
        }
        FourLorries x = new FourLorries();
        for (int c = 0; c < 3; c++) {
            Check.camp(x, "l1;s1h1e1w1;b1");
        }
        Check.camp(x, "l1;s1h1e1w1;b1");
        for (int p = 0; p < 13; p++) {
            x.part(0, 0, 1);
        }
        due(x, 3, 12, 12, 0);
        for (int p = 0; p < 12; p++) {
            x.hide(p, true);
        }
        due(x, 3, 12, 12, 12);
        for (int p = 0; p < 12; p++) {
            x.mend(p, false);
            due(x, 3, 12, 11 - p, 12);
        }
        for (int p = 0; p < 12; p++) {
            x.hide(p, false);
            due(x, 3, 12, 0, 11 - p);
        }
        x.mend(0, true);
        x.move(0, 0, 0, 0);
        due(x, 3, 12, 1, 0);
        x.move(0, NONE, 0, 0);
        due(x, 3, 12, 0, 0);
    }

    private static void due(FourLorries x, int... counts) {
        for (int i = 0; i < 4; i++) {
            int what = i;
            Edges.taken("promise 35, many(" + what + ")", x, y -> y.many(what), counts[what], false);
        }
    }
}
