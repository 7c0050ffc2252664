/** Promises 25 to 35: sheet, lose, put, cell, copy, tell, list, as, trace, fault, many. */
public final class SheetsTest {
    private static final int UNKNOWN = FourLorries.UNKNOWN, OUTSIDE = FourLorries.OUTSIDE;
    private static final long LOST = FourLorries.LOST;

    public static void main(String[] args) {
        sheet();
        lose();
        put();
        cell();
        copy();
        refusalsOfCopy();
        tellAndList();
        as();
        traceWraps();
        fault();
        many();
        Check.end("SheetsTest");
    }

    private static void sheet() {
        FourLorries x = new FourLorries();
        for (int lane = 0; lane < 3; lane++) {
            Check.due("a new row", x.sheet(lane, lane, 60), 1);
            x.put(lane, 59, 7);
            Check.due("its last cell", x.cell(lane, 59, lane), 7);
            Check.due("a new row again", x.sheet(lane, lane, 60), 1);
            Check.due("0 at first", x.cell(lane, 59, lane), 0);
        }
        Check.due("a row of none", x.sheet(3, 0, 0), 1);
        Check.due("has no cell", x.put(3, 0, 0), -13);
        Check.due("another lane", x.sheet(3, 2, 1), 1);
        Check.due("of it", x.cell(3, 0, 2), 0);
        Check.due("no such sheet", x.sheet(4, 3, 61), UNKNOWN);
        Check.due("no such sheet", x.sheet(-1, 0, -1), UNKNOWN);
        Check.due("no such lane", x.sheet(0, 3, -1), OUTSIDE);
        Check.due("no such lane", x.sheet(0, -1, 1), OUTSIDE);
        Check.due("above 60", x.sheet(0, 0, 61), OUTSIDE);
        Check.due("refused: fault()", x.fault(), 0);
        x.put(0, 0, 5);
        Check.due("below 0", x.sheet(0, 1, -1), -14);
        Check.due("below 0: fault()", x.fault(), 4);
        Check.due("as it was", x.cell(0, 0, 0), 5);
    }

    private static void lose() {
        FourLorries x = new FourLorries();
        Check.due("it had nothing", x.lose(0), 0);
        x.sheet(0, 1, 1);
        Check.due("it had a row", x.lose(0), 1);
        Check.due("it has nothing", x.lose(0), 0);
        Check.due("nothing to put to", x.put(0, 0, 1), -11);
        x.lose(1);
        Check.due("lose names no fault", x.fault(), 1);
        Check.due("no such sheet", x.lose(4), UNKNOWN);
        Check.due("no such sheet", x.lose(-1), UNKNOWN);
        Check.due("nor then", x.fault(), 1);
        x.sheet(0, 1, 0);
        Check.due("a row of none is something", x.lose(0), 1);
    }

    private static void put() {
        FourLorries x = new FourLorries();
        int[] lasts = {127, 32767, Integer.MAX_VALUE};
        for (int lane = 0; lane < 3; lane++) {
            x.sheet(0, lane, 3);
            Check.due("put", x.put(0, 0, lasts[lane]), 1);
            Check.due("put", x.put(0, 1, lasts[lane] + 1), 1);
            Check.due("put", x.put(0, 2, Integer.MIN_VALUE), 1);
            Check.due("the greatest", x.cell(0, 0, lane), lasts[lane]);
            Check.due("cut", x.cell(0, 1, lane), -1L - lasts[lane]);
            Check.due("cut", x.cell(0, 2, lane), lane == 2 ? Integer.MIN_VALUE : 0);
            Check.due("beyond", x.put(0, 3, 1), -13);
            Check.due("beyond: fault()", x.fault(), 3);
            Check.due("below 0", x.put(0, -1, 1), -13);
        }
        Check.due("no such sheet", x.put(4, -1, 0), UNKNOWN);
        Check.due("refused: fault()", x.fault(), 0);
        Check.due("no such sheet", x.put(-1, 0, 0), UNKNOWN);
        Check.due("nothing", x.put(1, -1, 0), -11);
        Check.due("nothing: fault()", x.fault(), 1);
        x.put(0, 0, 9);
        Check.due("put: fault()", x.fault(), 0);
    }

    private static void cellFault(FourLorries x, int k, int i, int lane, int fault) {
        Check.due("cell(" + k + ", " + i + ", " + lane + ")", x.cell(k, i, lane), LOST);
        Check.due("its fault()", x.fault(), fault);
    }

    private static void cell() {
        FourLorries x = new FourLorries();
        cellFault(x, 4, 0, 0, 0);
        cellFault(x, 0, -1, 0, 1);
        cellFault(x, 0, -1, 3, 0);
        cellFault(x, 0, -1, 2, 1);
        cellFault(x, -1, -1, 3, 0);
        x.sheet(0, 1, 2);
        cellFault(x, 0, -1, -1, 0);
        cellFault(x, 0, -1, 0, 2);
        cellFault(x, 0, 2, 2, 2);
        cellFault(x, 0, -1, 1, 3);
        cellFault(x, 0, 2, 1, 3);
        x.put(0, 1, -5);
        Check.due("a cell", x.cell(0, 1, 1), -5);
        Check.due("its fault()", x.fault(), 0);
    }

    private static void row(FourLorries x, int k, int... due) {
        for (int i = 0; i < due.length; i++) {
            Check.due("cell " + i, x.cell(k, i, 2), due[i]);
        }
    }

    private static void copy() {
        FourLorries x = new FourLorries();
        Check.write(x, 0, 2, new int[] {1, 2, 3, 4, 5});
        x.sheet(1, 2, 3);
        Check.due("copy", x.copy(0, 2, 1, 1, 2), 2);
        row(x, 1, 0, 3, 4);
        Check.due("on itself, up", x.copy(0, 0, 0, 1, 4), 4);
        row(x, 0, 1, 1, 2, 3, 4);
        Check.due("on itself, down", x.copy(0, 1, 0, 0, 4), 4);
        row(x, 0, 1, 2, 3, 4, 4);
        Check.due("none", x.copy(0, 5, 1, 3, 0), 0);
        Check.due("fault()", x.fault(), 0);
        row(x, 1, 0, 3, 4);
    }

    private static void refusalsOfCopy() {
        FourLorries x = new FourLorries();
        Check.due("no such sheet", x.copy(4, -1, 0, -1, -1), UNKNOWN);
        Check.due("no such sheet", x.copy(0, -1, -1, -1, -1), UNKNOWN);
        Check.due("nothing", x.copy(0, -1, 1, -1, -1), -11);
        x.sheet(0, 2, 4);
        Check.due("the other has nothing", x.copy(0, -1, 1, -1, -1), -11);
        Check.due("the first has nothing", x.copy(1, -1, 0, -1, -1), -11);
        Check.due("nothing: fault()", x.fault(), 1);
        x.sheet(1, 1, 2);
        Check.due("unlike lanes", x.copy(0, -1, 1, -1, -1), -12);
        Check.due("unlike lanes: fault()", x.fault(), 2);
        x.sheet(1, 2, 2);
        int[][] wrong = {{-1, 0, 1}, {0, -1, 1}, {0, 0, -1}, {5, 0, 0}, {0, 3, 0}, {0, 0, 3}, {3, 0, 2}, {0, 1, 2},
            {Integer.MAX_VALUE, 0, 1}, {0, Integer.MAX_VALUE, 1}, {1, 1, Integer.MAX_VALUE}, {0, 0, Integer.MIN_VALUE}};
        for (int[] w : wrong) {
            Check.due("copy from " + w[0] + " to " + w[1] + ", " + w[2], x.copy(0, w[0], 1, w[1], w[2]), -13);
            Check.due("its fault()", x.fault(), 3);
        }
        Check.due("refused", x.copy(0, 0, 4, 0, 0), UNKNOWN);
        Check.due("refused: fault()", x.fault(), 0);
    }

    private static void tellAndList() {
        FourLorries x = new FourLorries();
        for (int p = 0; p < 3; p++) {
            x.part(p, 0, 4 + p);
        }
        int[] told = {4, 105, 106 + 6};
        int[][] bodies = {{1}, {2, 1}, {3, 2, 1, 1}};
        int trace = 0;
        for (int p = 0; p < 3; p++) {
            Check.due("tell(" + p + ")", x.tell(p), told[p]);
            for (int body : bodies[p]) {
                trace = 31 * trace + body;
            }
            Check.due("trace behind tell(" + p + ")", x.trace(), trace);
            Check.due("list(" + p + ")", x.list(p), p == 2 ? 60 : p);
            trace = 31 * trace + (p == 2 ? 5 : 4);
            Check.due("trace behind list(" + p + ")", x.trace(), trace);
        }
        for (int wrong : new int[] {-1, 3}) {
            Check.due("tell of none", x.tell(wrong), UNKNOWN);
            Check.due("list of none", x.list(wrong), UNKNOWN);
        }
        Check.due("trace is as it was", x.trace(), trace);
    }

    private static void as() {
        FourLorries x = new FourLorries();
        for (int p = 0; p < 3; p++) {
            x.part(p, 0, 1);
        }
        for (int p = 0; p < 3; p++) {
            for (int kind = 0; kind < 3; kind++) {
                Check.due("as(" + p + ", " + kind + ")", x.as(p, kind), kind <= p ? 1 : -12);
                Check.due("its fault()", x.fault(), kind <= p ? 0 : 2);
            }
        }
        x.as(0, 2);
        Check.due("no such kind", x.as(0, 3), OUTSIDE);
        Check.due("no such kind", x.as(0, -1), OUTSIDE);
        Check.due("refused: fault()", x.fault(), 0);
        x.as(0, 2);
        Check.due("no such part", x.as(3, 3), UNKNOWN);
        Check.due("refused: fault()", x.fault(), 0);
        Check.due("no such part", x.as(-1, 0), UNKNOWN);
        Check.due("no body begins", x.trace(), 0);
    }

    private static void traceWraps() {
        FourLorries x = new FourLorries();
        x.part(2, 1, 9);
        int trace = 0;
        for (int i = 0; i < 20; i++) {
            x.list(0);
            trace = 31 * trace + 5;
            Check.due("trace", x.trace(), trace);
        }
    }

    private static void fault() {
        FourLorries x = new FourLorries();
        x.part(0, 0, 1);
        x.as(0, 1);
        Check.due("of the latest call that names one", x.fault(), 2);
        x.tell(0);
        x.move(0, 0, 0, 0);
        x.ofCamp(0, 0);
        x.runs();
        x.many(9);
        Check.due("others leave it", x.fault(), 2);
        Check.due("asked again", x.fault(), 2);
        x.sheet(0, 0, 1);
        Check.due("came to none", x.fault(), 0);
        x.put(0, 1, 1);
        Check.due("index", x.fault(), 3);
        x.camp(0, 0, 0, 1);
        Check.due("a text's first fault is none", x.fault(), 0);
        x.put(1, 0, 0);
        Check.due("null", x.fault(), 1);
        x.copy(0, 0, 0, 0, 1);
        Check.due("came to none", x.fault(), 0);
    }

    private static void many() {
        FourLorries x = new FourLorries();
        Check.camp(x, "l1;s1h1e1w1;b1");
        Check.camp(x, "l1;s1h1e1w1;b1");
        for (int p = 0; p < 5; p++) {
            x.part(0, 0, 1);
        }
        x.hide(1, true);
        x.mend(1, false);
        x.mend(2, false);
        x.hide(4, true);
        x.hide(0, true);
        int[] due = {2, 5, 3, 3};
        for (int what = 0; what < 4; what++) {
            Check.due("many(" + what + ")", x.many(what), due[what]);
        }
        Check.due("no such what", x.many(4), OUTSIDE);
        Check.due("no such what", x.many(-1), OUTSIDE);
    }
}
