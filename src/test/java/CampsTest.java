import java.util.Random;
import java.util.regex.Matcher;
import java.util.regex.Pattern;

/** Promises 1 to 5: a new object, camp, ofCamp, ofSort, turn. */
public final class CampsTest {
    private static final int UNKNOWN = FourLorries.UNKNOWN, OUTSIDE = FourLorries.OUTSIDE, FULL = FourLorries.FULL;
    private static final String WHOLE = "l4;s5h12e0w9;s0h3e02w1;s2h0e11w5;b0379;p9012";

    public static void main(String[] args) {
        newObject();
        campOfText();
        firstFaults();
        faultsAgainstPattern();
        endsAheadOfTheRow();
        refusalsOfCamp();
        orderOfCamp();
        ofCamp();
        ofSort();
        turn();
        Check.end("CampsTest");
    }

    private static void newObject() {
        FourLorries x = new FourLorries();
        for (int what = 0; what <= 3; what++) {
            Check.due("new: many(" + what + ")", x.many(what), 0);
        }
        Check.due("new: ofCamp", x.ofCamp(0, 0), UNKNOWN);
        Check.due("new: ofPart", x.ofPart(0, 0), UNKNOWN);
        Check.due("new: trace", x.trace(), 0);
        Check.due("new: fault", x.fault(), 0);
        Check.due("new: runs", x.runs(), 0);
        for (int what = 0; what <= 3; what++) {
            Check.due("new: most(" + what + ")", x.most(what), 0);
        }
        for (int k = 0; k < 4; k++) {
            Check.due("new: lose", x.lose(k), 0);
            Check.due("new: put", x.put(k, 0, 0), -11);
        }
        for (int place = 0; place < 12; place++) {
            Check.due("new: at", x.at(place / 3, place % 3), FourLorries.NONE);
        }
        Check.due("new: spoils", x.spoils(3), 3);
        for (int sort = 0; sort < 3; sort++) {
            Check.due("new: odds", x.odds(sort, 2), 2);
        }
    }

    private static void campOfText() {
        FourLorries x = new FourLorries();
        for (int lane = 0; lane < 3; lane++) {
            Check.write(x, lane, lane, "??" + WHOLE + "??");
            Check.due("camp in lane " + lane, x.camp(lane, lane, 2, WHOLE.length()), lane);
            Check.due("its fault()", x.fault(), 0);
        }
        Check.due("many(0)", x.many(0), 3);
        Check.due("a fourth one", x.camp(0, 0, 2, WHOLE.length()), FULL);
        Check.due("a fourth one: fault()", x.fault(), 0);
        Check.due("a fourth one with a fault", x.camp(0, 0, 1, WHOLE.length()), -100);
        Check.due("many(0)", x.many(0), 3);
    }

    private static void fault(String text, int place) {
        FourLorries x = new FourLorries();
        Check.due("first fault of " + text, Check.camp(x, text), -100 - place);
        Check.due("no camp by " + text, x.many(0), 0);
        Check.due("fault() of " + text, x.fault(), 0);
    }

    private static void firstFaults() {
        fault("", 0);
        fault("x", 0);
        fault("l", 1);
        fault("l0", 1);
        fault("l5", 1);
        fault("l12", 2);
        fault("l1;", 3);
        fault("l1;b", 3);
        fault("l1;s6", 4);
        fault("l1;s1h", 6);
        fault("l1;s1h1", 7);
        fault("l1;s1h12", 8);
        fault("l1;s1h13", 6);
        fault("l1;s1h130", 6);
        fault("l1;s1h99e1", 6);
        fault("l1;s1h012", 8);
        fault("l1;s1h1x", 7);
        fault("l1;s1h1e20", 8);
        fault("l1;s1h1e1w0", 10);
        fault("l1;s1h1e1w12", 11);
        fault("l1;s1h1e1w1", 11);
        fault("l1;s1h1e1w1;", 12);
        fault("l1;s1h1e1w1;p", 12);
        fault("l1;s1h1e1w1;b", 13);
        fault("l1;s1h1e1w1;bx", 13);
        fault("l1;s1h1e1w1;b11", 14);
        fault("l1;s1h1e1w1;b1;", 15);
        fault("l1;s1h1e1w1;b1;p", 16);
        fault("l1;s1h1e1w1;b1;p0", 16);
        fault("l1;s1h1e1w1;b1;p1", 17);
        fault("l1;s1h1e1w1;b1;p13", 17);
        fault("l1;s1h1e1w1;b1;p122", 18);
        fault("l1;s1h1e1w1;b1;s", 15);
        fault("l1;s1h1e1w1;s1h1e1w1;s1h1e1w1;s1h1e1w1;b1", 30);
        fault("l2;s1h1e1w1;b1", 14);
    }

    private static final Pattern TEXT = Pattern.compile(
        "l([1-4])(;s[0-5]h(0[0-9]|1[0-2]|[0-9])e(0[0-9]|1[0-2]|[0-9])w[1-9]){1,3};b[0-9]{1,4}(;p[1-9][0-2]{1,3})?");

    /** By a pattern that tells what is so far the beginning of a text, with its numbers of digits. */
    private static int expectedFault(String text) {
        for (int n = 1; n <= text.length(); n++) {
            if (!begins(text.substring(0, n))) {
                boolean second = n >= 3 && Character.isDigit(text.charAt(n - 1)) && Character.isDigit(text.charAt(n - 2))
                    && "he".indexOf(text.charAt(n - 3)) >= 0;
                return second ? n - 2 : n - 1;
            }
        }
        return patternFor(text).matcher(text).matches() ? -1 : text.length();
    }

    private static boolean begins(String text) {
        Matcher m = patternFor(text).matcher(text);
        return m.matches() || m.hitEnd();
    }

    private static Pattern patternFor(String text) {
        String pattern = TEXT.pattern();
        if (text.length() > 1 && text.charAt(1) >= '1' && text.charAt(1) <= '4') {
            pattern = pattern.replace("b[0-9]{1,4}", "b[0-9]{" + text.charAt(1) + "}");
        }
        int sorts = (int) text.chars().filter(c -> c == 's').count();
        if (sorts >= 1 && sorts <= 3 && text.indexOf(";p") > 0) {
            pattern = pattern.replace("[0-2]{1,3}", "[0-2]{" + sorts + "}");
        }
        return Pattern.compile(pattern);
    }

    private static void faultsAgainstPattern() {
        Random random = new Random(1);
        for (int run = 0; run < 3000; run++) {
            String text = Model.mutated(random, Model.randomText(random), random.nextInt(3));
            FourLorries x = new FourLorries();
            int fault = expectedFault(text);
            Check.due("by a pattern: " + text, Check.camp(x, text), fault < 0 ? 0 : -100 - fault);
        }
    }

    /** Cells behind the text's end are no part of it, though it would go on with them. */
    private static void endsAheadOfTheRow() {
        FourLorries x = new FourLorries();
        for (String text : new String[] {WHOLE, "l1;s1h12e12w1;b1"}) {
            Check.write(x, 0, 2, text);
            for (int n = 0; n < text.length(); n++) {
                String taken = text.substring(0, n);
                int fault = expectedFault(taken);
                Check.due("just " + taken, x.camp(0, 2, 0, n), fault < 0 ? x.many(0) - 1 : -100 - fault);
            }
        }
        Check.due("without its plane it is a text", x.many(0), 1);
    }

    private static void refusalsOfCamp() {
        FourLorries x = new FourLorries();
        Check.due("no such sheet", x.camp(4, 0, 0, 0), UNKNOWN);
        Check.due("no such sheet", x.camp(-1, 0, 0, 0), UNKNOWN);
        Check.due("no such lane", x.camp(0, 3, 0, 0), OUTSIDE);
        Check.due("no such lane", x.camp(0, -1, 0, 0), OUTSIDE);
        for (int lane = 0; lane < 3; lane++) {
            Check.due("nothing is no cast", x.camp(0, lane, 0, 0), -11);
            Check.due("its fault()", x.fault(), 1);
        }
        x.sheet(0, 1, 5);
        Check.due("cast", x.camp(0, 0, 0, 0), -12);
        Check.due("cast: fault()", x.fault(), 2);
        Check.due("size", x.camp(0, 1, 0, -1), -14);
        Check.due("size: fault()", x.fault(), 4);
        Check.due("index", x.camp(0, 1, 0, 6), -13);
        Check.due("index: fault()", x.fault(), 3);
        Check.due("index", x.camp(0, 1, -1, 0), -13);
        Check.due("index", x.camp(0, 1, 6, 0), -13);
        Check.due("index", x.camp(0, 1, Integer.MAX_VALUE, Integer.MAX_VALUE), -13);
        Check.due("index", x.camp(0, 1, 1, Integer.MAX_VALUE), -13);
        Check.due("none taken at the end", x.camp(0, 1, 5, 0), -100);
        Check.due("none taken: fault()", x.fault(), 0);
    }

    private static void orderOfCamp() {
        FourLorries x = new FourLorries();
        Check.due("UNKNOWN ahead of OUTSIDE", x.camp(4, 3, -1, -1), UNKNOWN);
        Check.due("OUTSIDE ahead of NULL", x.camp(0, 3, -1, -1), OUTSIDE);
        Check.due("NULL ahead of SIZE", x.camp(0, 0, -1, -1), -11);
        x.sheet(0, 2, 3);
        Check.due("OUTSIDE ahead of CAST", x.camp(0, 3, -1, -1), OUTSIDE);
        Check.due("refused: fault()", x.fault(), 0);
        Check.due("CAST ahead of SIZE", x.camp(0, 0, -1, -1), -12);
        Check.due("SIZE ahead of INDEX", x.camp(0, 2, -1, -1), -14);
    }

    private static void ofCamp() {
        FourLorries x = new FourLorries();
        Check.camp(x, WHOLE);
        Check.camp(x, "l1;s2h1e1w1;b7");
        int[] due = {4, 3, 9, 0};
        for (int what = 0; what < 4; what++) {
            Check.due("ofCamp(0, " + what + ")", x.ofCamp(0, what), due[what]);
        }
        int[] brings = {0, 0, 3, 7, 9, OUTSIDE};
        for (int k = 0; k < 6; k++) {
            Check.due("brings of " + k, x.ofCamp(0, 10 + k), brings[k]);
        }
        Check.due("no plane", x.ofCamp(1, 2), 0);
        Check.due("can run", x.ofCamp(1, 3), 1);
        Check.due("brings of 1", x.ofCamp(1, 11), 7);
        Check.due("brings of 2", x.ofCamp(1, 12), OUTSIDE);
        x.turn(0, 1, 0, 4);
        Check.due("as parts allow", x.ofCamp(0, 3), 2);
        x.turn(0, 2, 0, 5);
        Check.due("as lorries allow", x.ofCamp(0, 3), 4);
        for (int what : new int[] {-1, 4, 9, Integer.MIN_VALUE, Integer.MAX_VALUE}) {
            Check.due("ofCamp(0, " + what + ")", x.ofCamp(0, what), OUTSIDE);
        }
        Check.due("no such camp", x.ofCamp(2, 99), UNKNOWN);
        Check.due("no such camp", x.ofCamp(-1, 0), UNKNOWN);
    }

    private static void ofSort() {
        FourLorries x = new FourLorries();
        Check.camp(x, WHOLE);
        int[][] due = {{5, 12, 0, 9, 0}, {0, 3, 2, 1, 1}, {2, 0, 11, 5, 2}};
        for (int s = 0; s < 3; s++) {
            for (int what = 0; what < 5; what++) {
                Check.due("ofSort(0, " + s + ", " + what + ")", x.ofSort(0, s, what), due[s][what]);
            }
        }
        Check.camp(x, "l1;s2h1e1w1;s2h1e1w1;b7");
        Check.due("without a plane", x.ofSort(1, 0, 4), 0);
        Check.due("without a plane", x.ofSort(1, 1, 4), 0);
        Check.due("no such what", x.ofSort(0, 0, 5), OUTSIDE);
        Check.due("no such what", x.ofSort(0, 0, -1), OUTSIDE);
        Check.due("no such sort", x.ofSort(1, 2, 5), UNKNOWN);
        Check.due("no such sort", x.ofSort(0, -1, 0), UNKNOWN);
        Check.due("no such camp", x.ofSort(2, 0, 0), UNKNOWN);
    }

    private static void turn() {
        FourLorries x = new FourLorries();
        Check.camp(x, WHOLE);
        int[] was = {0, 3, 2, 1};
        int[] least = {0, 0, 0, 1};
        int[] most = {5, 12, 12, 9};
        for (int what = 0; what < 4; what++) {
            Check.due("too few", x.turn(0, 1, what, least[what] - 1), OUTSIDE);
            Check.due("too many", x.turn(0, 1, what, most[what] + 1), OUTSIDE);
            Check.due("unchanged", x.ofSort(0, 1, what), was[what]);
            Check.due("what it was", x.turn(0, 1, what, most[what]), was[what]);
            Check.due("what it is", x.ofSort(0, 1, what), most[what]);
            Check.due("what it was then", x.turn(0, 1, what, least[what]), most[what]);
            Check.due("the other sort", x.ofSort(0, 0, what), new int[] {5, 12, 0, 9}[what]);
        }
        Check.due("planes do not turn", x.turn(0, 1, 4, 1), OUTSIDE);
        Check.due("no such what", x.turn(0, 1, -1, 1), OUTSIDE);
        Check.due("no such sort", x.turn(0, 3, 9, 99), UNKNOWN);
        Check.due("no such camp", x.turn(1, 0, 0, 0), UNKNOWN);
        long before = x.value(0, 0, 5, 0);
        x.turn(0, 1, 0, 5);
        Check.yes("values see GOOD turned", x.value(0, 0, 5, 0) > before);
        before = x.value(0, 0, 5, 0);
        x.turn(0, 0, 1, 0);
        Check.yes("values see HARD turned", x.value(0, 0, 5, 0) > before);
        before = x.value(0, 2, 5, 0);
        x.turn(0, 2, 2, 0);
        Check.yes("values see EASY turned", x.value(0, 2, 5, 0) > before);
    }
}
