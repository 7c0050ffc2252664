import java.util.ArrayList;
import java.util.List;
import java.util.function.Supplier;

/** What the tests of boundary cases share: a refused call is held against a twin that was not called. */
final class Edges {
    /** fault() is to stay as it was: the call names no FAULTS. */
    static final int LEFT = -1;
    static final int MIN = Integer.MIN_VALUE, MAX = Integer.MAX_VALUE;

    interface Call {
        long on(FourLorries x);
    }

    private Edges() {
    }

    /** The first numbers on either side of what is taken, the ends of the ints, and one that a byte would take. */
    static int[] outside(int least, int greatest) {
        return new int[] {MIN, least - 1, greatest + 1, MAX, greatest + 256 - (greatest - least) / 2};
    }

    /** The call answers so, fault() tells so, and all else is as it is of an object without the call. */
    static void refused(String what, Supplier<FourLorries> made, Call call, long answer, int fault) {
        FourLorries x = made.get();
        int before = leaveAnotherFault(x, fault);
        Check.due(what, call.on(x), answer);
        Check.due(what + ": fault()", x.fault(), fault == LEFT ? before : fault);
        same(what + ": changes nothing", state(x), state(made.get()));
    }

    /** Taken: the call answers so, and fault() tells 0 if the call names FAULTS. */
    static void taken(String what, FourLorries x, Call call, long answer, boolean namesFaults) {
        int before = leaveAnotherFault(x, 0);
        Check.due(what, call.on(x), answer);
        Check.due(what + ": fault()", x.fault(), namesFaults ? 0 : before);
    }

    /** By calls that change nothing else, so that a fault() that is due is not there by chance. */
    private static int leaveAnotherFault(FourLorries x, int due) {
        if (due == 4) {
            x.put(3, -1, 0);
        } else {
            x.sheet(0, 0, -1);
        }
        return x.fault();
    }

    static void same(String what, List<String> got, List<String> want) {
        int different = 0;
        while (different < want.size() && different < got.size() && got.get(different).equals(want.get(different))) {
            different++;
        }
        boolean alike = got.size() == want.size() && different == want.size();
        Check.yes(alike ? what : what + ", but at " + different + " of " + got + " and " + want, alike);
    }

    /** All that can be read but fault(); SPOILS and ODDS last, as they are read by turning them. */
    static List<String> state(FourLorries x) {
        List<String> rows = new ArrayList<>();
        rows.add("trace " + x.trace());
        for (int what = 0; what < 4; what++) {
            rows.add("many " + x.many(what) + " most " + x.most(what));
        }
        rows.add("runs " + x.runs());
        for (int c = 0; c < x.many(0); c++) {
            campState(x, c, rows);
        }
        for (int p = 0; p < x.many(1); p++) {
            StringBuilder b = new StringBuilder("part " + p);
            for (int what = 0; what <= 6; what++) {
                b.append(' ').append(x.ofPart(p, what));
            }
            rows.add(b.append(" goes ").append(x.goes(p)).toString());
        }
        for (int place = 0; place < 12; place++) {
            rows.add("at " + x.at(place / 3, place % 3));
        }
        for (int k = 0; k < 4; k++) {
            rows.add("sheet " + rowOf(x, k));
        }
        rows.add("spoils " + x.spoils(0));
        rows.add("odds " + x.odds(0, 0) + " " + x.odds(1, 0) + " " + x.odds(2, 0));
        return rows;
    }

    private static void campState(FourLorries x, int c, List<String> rows) {
        StringBuilder b = new StringBuilder("camp " + c);
        for (int what = 0; what < 4; what++) {
            b.append(' ').append(x.ofCamp(c, what));
        }
        for (int k = 0; k <= x.ofCamp(c, 0); k++) {
            b.append(' ').append(x.ofCamp(c, 10 + k));
        }
        for (int s = 0; s < x.ofCamp(c, 1); s++) {
            b.append(" sort");
            for (int what = 0; what <= 4; what++) {
                b.append(' ').append(x.ofSort(c, s, what));
            }
        }
        rows.add(b.append(" value ").append(x.value(c, 0, 3, 1)).toString());
    }

    /** The lane and the cells of a sheet. */
    static String rowOf(FourLorries x, int k) {
        for (int lane = 0; lane < 3; lane++) {
            long first = x.cell(k, 0, lane);
            if (x.fault() == 1) {
                return "nothing";
            }
            if (x.fault() == 2) {
                continue;
            }
            StringBuilder b = new StringBuilder("of lane " + lane);
            for (int i = 0; i <= 60 && first != FourLorries.LOST; i++) {
                b.append(' ').append(first);
                first = x.cell(k, i + 1, lane);
            }
            return b.toString();
        }
        return "of no lane";
    }
}
