/** The boundary cases of promises 1 to 5: a new object, camp, ofCamp, ofSort, turn. */
public final class CampEdgesTest {
    private static final int UNKNOWN = FourLorries.UNKNOWN, OUTSIDE = FourLorries.OUTSIDE, FULL = FourLorries.FULL;
    private static final int NONE = FourLorries.NONE, MIN = Edges.MIN, MAX = Edges.MAX, LEFT = Edges.LEFT;
    private static final long LOST = FourLorries.LOST;
    private static final String SHORT = "l1;s1h1e1w1;b1";
    private static final String LONGEST = "l4;s5h12e12w9;s5h12e12w9;s5h12e12w9;b9999;p9222";

    public static void main(String[] args) {
        newObjectHasNothing();
        orderOfCamp();
        sheetsAndLanesOfCamp();
        cellsOfCamp();
        emptyRows();
        roomForCamps();
        leastAndGreatestOfTexts();
        codesBesideTheRightOnes();
        codesOfWiderLanes();
        numbersOfOneOrTwoDigits();
        textsThatEndTooSoon();
        sortsOfATextAtMost();
        planesOfATextAsSorts();
        ofCamp();
        emptyCamp();
        ofSort();
        turnBounds();
        turnOrder();
        Check.end("CampEdgesTest");
    }

    private static void newObjectHasNothing() {
        String p = "promise 1, a new object: ";
        Edges.refused(p + "no camp", FourLorries::new, x -> x.ofCamp(0, 0), UNKNOWN, LEFT);
        Edges.refused(p + "no sort", FourLorries::new, x -> x.ofSort(0, 0, 0), UNKNOWN, LEFT);
        Edges.refused(p + "no camp to turn", FourLorries::new, x -> x.turn(0, 0, 0, 0), UNKNOWN, LEFT);
        Edges.refused(p + "no camp's value", FourLorries::new, x -> x.value(0, 0, 1, 0), LOST, LEFT);
        Edges.refused(p + "no camp's today", FourLorries::new, x -> x.today(0, 1, 0), UNKNOWN, LEFT);
        Edges.refused(p + "no camp's worth", FourLorries::new, x -> x.worth(0, 0, 1), LOST, LEFT);
        Edges.refused(p + "no camp's crate", FourLorries::new, x -> x.crate(0, 0, 1, -1), UNKNOWN, LEFT);
        Edges.refused(p + "no camps to lend", FourLorries::new, x -> x.lent(0, 1, 0, 1), LOST, LEFT);
        Edges.refused(p + "no camps for both", FourLorries::new, x -> x.both(0, 1, 0, 1, 1), UNKNOWN, LEFT);
        Edges.refused(p + "no part", FourLorries::new, x -> x.ofPart(0, 0), UNKNOWN, LEFT);
        Edges.refused(p + "no part fits", FourLorries::new, x -> x.fits(0, 0), UNKNOWN, LEFT);
        Edges.refused(p + "no part to move", FourLorries::new, x -> x.move(0, NONE, 0, 0), UNKNOWN, LEFT);
        Edges.refused(p + "no part to mend", FourLorries::new, x -> x.mend(0, true), UNKNOWN, LEFT);
        Edges.refused(p + "no part to hide", FourLorries::new, x -> x.hide(0, true), UNKNOWN, LEFT);
        Edges.refused(p + "no part goes", FourLorries::new, x -> x.goes(0), UNKNOWN, LEFT);
        Edges.refused(p + "no part to tell", FourLorries::new, x -> x.tell(0), UNKNOWN, LEFT);
        Edges.refused(p + "no part to list", FourLorries::new, x -> x.list(0), UNKNOWN, LEFT);
        Edges.refused(p + "no part to take", FourLorries::new, x -> x.as(0, 0), UNKNOWN, 0);
        for (int k = 0; k < 4; k++) {
            int sheet = k;
            Edges.refused(p + "no text", FourLorries::new, x -> x.camp(sheet, 0, 0, 0), -11, 1);
            Edges.refused(p + "no draws", FourLorries::new, x -> x.drive(sheet, 2, 0, 0), -11, 1);
            Edges.refused(p + "no row to put to", FourLorries::new, x -> x.put(sheet, 0, 0), -11, 1);
            Edges.refused(p + "no cell", FourLorries::new, x -> x.cell(sheet, 0, 1), LOST, 1);
            Edges.refused(p + "no row to copy", FourLorries::new, x -> x.copy(sheet, 0, sheet, 0, 0), -11, 1);
            Edges.refused(p + "no row to lose", FourLorries::new, x -> x.lose(sheet), 0, LEFT);
        }
        FourLorries x = new FourLorries();
        Check.due(p + "fault() ahead of any", x.fault(), 0);
        Check.due(p + "TRACE", x.trace(), 0);
    }

    /** So many camps, a text that is one on sheet 0, one that is none on sheet 1, and sheet 2 has nothing. */
    private static FourLorries withTexts(int camps) {
        FourLorries x = new FourLorries();
        for (int c = 0; c < camps; c++) {
            Check.camp(x, SHORT);
        }
        Check.write(x, 0, 1, "?" + SHORT + "?");
        Check.write(x, 1, 1, "?" + SHORT.replace('w', 'x') + "?");
        return x;
    }

    /** All that may be wrong with a call of camp, together in all ways: the first in the order told is answered. */
    private static void orderOfCamp() {
        for (int camps = 2; camps <= 3; camps++) {
            for (int sheet : new int[] {-1, 0, 1, 2, 4}) {
                for (int lane : new int[] {-1, 0, 1, 2, 3}) {
                    for (int n : new int[] {-1, SHORT.length()}) {
                        for (int i : new int[] {-1, 1, 3}) {
                            oneOrderOfCamp(camps, sheet, lane, i, n);
                        }
                    }
                }
            }
        }
    }

    private static void oneOrderOfCamp(int camps, int sheet, int lane, int i, int n) {
        String what = "promise 2, camp(" + sheet + ", " + lane + ", " + i + ", " + n + ") with " + camps + " camps";
        int due;
        if (sheet < 0 || sheet > 3) {
            due = UNKNOWN;
        } else if (lane < 0 || lane > 2) {
            due = OUTSIDE;
        } else if (sheet == 2) {
            due = -11;
        } else if (lane != 1) {
            due = -12;
        } else if (n < 0) {
            due = -14;
        } else if (i != 1) {
            due = -13;
        } else if (sheet == 1) {
            due = -100 - SHORT.indexOf('w');
        } else {
            due = camps == 3 ? FULL : camps;
        }
        if (due >= 0) {
            Edges.taken(what, withTexts(camps), x -> x.camp(sheet, lane, i, n), due, true);
        } else {
            Edges.refused(what, () -> withTexts(camps), x -> x.camp(sheet, lane, i, n), due, faultOf(due));
        }
    }

    private static int faultOf(int answer) {
        return answer <= -11 && answer >= -14 ? -10 - answer : 0;
    }

    private static void sheetsAndLanesOfCamp() {
        for (int sheet : Edges.outside(0, 3)) {
            Edges.refused("promise 2, no sheet " + sheet, () -> withTexts(0), x -> x.camp(sheet, 1, 1, 14), UNKNOWN, 0);
        }
        for (int lane : Edges.outside(0, 2)) {
            Edges.refused("promise 2, no lane " + lane, () -> withTexts(0), x -> x.camp(0, lane, 1, 14), OUTSIDE, 0);
        }
        for (int sheet = 0; sheet < 4; sheet++) {
            for (int lane = 0; lane < 3; lane++) {
                FourLorries x = new FourLorries();
                int k = sheet;
                int as = lane;
                Check.write(x, k, as, SHORT);
                Edges.taken("promise 2, sheet " + k + " of lane " + as, x, y -> y.camp(k, as, 0, 14), 0, true);
                int other = (as + 1) % 3;
                Check.due("promise 2, the same in lane " + other, x.camp(k, other, 0, 14), -12);
                Check.due("promise 2, the same in lane " + other + ": fault()", x.fault(), 2);
            }
        }
    }

    /** The row has 16 cells. */
    private static void cellsOfCamp() {
        for (int n : new int[] {-1, -2, MIN}) {
            Edges.refused("promise 2, a length of " + n, () -> withTexts(0), x -> x.camp(0, 1, 0, n), -14, 4);
            Edges.refused("promise 2, a length of " + n + " from MIN on", () -> withTexts(0), x -> x.camp(0, 1, MIN, n), -14, 4);
        }
        for (int i : Edges.outside(0, 16)) {
            Edges.refused("promise 2, none from " + i + " on", () -> withTexts(0), x -> x.camp(0, 1, i, 0), -13, 3);
        }
        int[][] beyond = {{0, 17}, {1, 16}, {15, 2}, {16, 1}, {17, 1}, {0, MAX}, {1, MAX}, {MAX, 1}, {MAX, MAX}, {-1, 1},
            {-1, 17}, {MIN, MAX}, {MIN, 0}};
        for (int[] cells : beyond) {
            Edges.refused("promise 2, " + cells[1] + " cells from " + cells[0] + " on", () -> withTexts(0),
                x -> x.camp(0, 1, cells[0], cells[1]), -13, 3);
        }
        int[][] inside = {{0, 0}, {16, 0}, {0, 16}, {15, 1}};
        for (int[] cells : inside) {
            Edges.refused("promise 2, " + cells[1] + " cells from " + cells[0] + " on", () -> withTexts(0),
                x -> x.camp(0, 1, cells[0], cells[1]), -100, 0);
        }
        FourLorries x = new FourLorries();
        Check.write(x, 0, 2, "?".repeat(60 - LONGEST.length()) + LONGEST);
        Check.due("promise 2, a text up to a row's last cell", x.camp(0, 2, 60 - LONGEST.length(), LONGEST.length()), 0);
    }

    private static void emptyRows() {
        for (int lane = 0; lane < 3; lane++) {
            int as = lane;
            java.util.function.Supplier<FourLorries> empty = () -> {
                FourLorries x = new FourLorries();
                x.sheet(0, as, 0);
                return x;
            };
            Edges.refused("promise 2, an empty row", empty, x -> x.camp(0, as, 0, 0), -100, 0);
            Edges.refused("promise 2, one behind an empty row", empty, x -> x.camp(0, as, 1, 0), -13, 3);
            Edges.refused("promise 2, one ahead of an empty row", empty, x -> x.camp(0, as, -1, 0), -13, 3);
            Edges.refused("promise 2, a cell of an empty row", empty, x -> x.camp(0, as, 0, 1), -13, 3);
            Edges.refused("promise 2, an empty row of another lane", empty, x -> x.camp(0, (as + 1) % 3, 0, 0), -12, 2);
        }
    }

    private static void roomForCamps() {
        FourLorries x = withTexts(0);
        for (int c = 0; c < 3; c++) {
            Edges.taken("promise 2, camp " + c, x, y -> y.camp(0, 1, 1, 14), c, true);
            Check.due("promise 35, camps", x.many(0), c + 1);
        }
        Edges.refused("promise 2, a fourth camp", () -> withTexts(3), y -> y.camp(0, 1, 1, 14), FULL, 0);
        Edges.refused("promise 2, a fourth camp's fault", () -> withTexts(3), y -> y.camp(0, 1, 1, 13), -113, 0);
        Edges.refused("promise 2, a fourth camp of none", () -> withTexts(3), y -> y.camp(0, 1, 16, 0), -100, 0);
        Edges.refused("promise 2, a fourth camp beyond", () -> withTexts(3), y -> y.camp(0, 1, 3, 14), -13, 3);
    }

    /** One camp by the text whose number at @ is the one told, or the fault at it. */
    private static void number(String what, String pattern, int number, boolean isTaken, int camp, int sort, int reads) {
        String text = pattern.replace("@", String.valueOf(number));
        FourLorries x = new FourLorries();
        int answer = Check.camp(x, text);
        Check.due("promise 2, " + what + " " + number, answer, isTaken ? 0 : -100 - pattern.indexOf('@'));
        Check.due("promise 2, " + what + " " + number + ": camps", x.many(0), isTaken ? 1 : 0);
        Check.due("promise 2, " + what + " " + number + ": fault()", x.fault(), 0);
        if (isTaken) {
            Check.due("promise 3 or 4, " + what + " " + number, camp == NONE ? x.ofSort(0, sort, reads) : x.ofCamp(0, camp), number);
        }
    }

    private static void leastAndGreatestOfTexts() {
        for (int v = 0; v <= 9; v++) {
            String brings = "1".repeat(Math.max(1, Math.min(4, v)));
            number("LORRIES", "l@;s1h1e1w1;b" + brings, v, v >= 1 && v <= 4, 0, 0, 0);
            number("GOOD", "l1;s@h1e1w1;b1", v, v <= 5, NONE, 0, 0);
            number("GOOD of the last", "l1;s1h1e1w1;s1h1e1w1;s@h1e1w1;b1", v, v <= 5, NONE, 2, 0);
            number("WEIGHT", "l1;s1h1e1w@;b1", v, v >= 1, NONE, 0, 3);
            number("WEIGHT of the last", "l1;s1h1e1w1;s1h1e1w1;s1h1e1w@;b1", v, v >= 1, NONE, 2, 3);
            number("BRINGS of 1", "l4;s1h1e1w1;b@111", v, true, 11, 0, 0);
            number("BRINGS of 4", "l4;s1h1e1w1;b111@", v, true, 14, 0, 0);
            number("DAYS", "l1;s1h1e1w1;b1;p@1", v, v >= 1, 2, 0, 0);
            number("a PLANE's", "l1;s1h1e1w1;b1;p1@", v, v <= 2, NONE, 0, 4);
            number("a PLANE's last", "l1;s1h1e1w1;s1h1e1w1;s1h1e1w1;b1;p100@", v, v <= 2, NONE, 2, 4);
        }
        for (int v = 0; v <= 99; v++) {
            number("HARD", "l1;s1h@e1w1;b1", v, v <= 12, NONE, 0, 1);
            number("EASY", "l1;s1h1e@w1;b1", v, v <= 12, NONE, 0, 2);
            number("HARD of the last", "l1;s1h1e1w1;s1h1e1w1;s1h@e1w1;b1", v, v <= 12, NONE, 2, 1);
            number("EASY of the last", "l1;s1h1e1w1;s1h1e1w1;s1h1e@w1;b1", v, v <= 12, NONE, 2, 2);
        }
    }

    /** At each place each code but the right ones is the first fault, those of the byte's ends among them. */
    private static void codesBesideTheRightOnes() {
        String text = "l2;s4h2e1w3;b36;p12";
        String[] right = {"l", "", ";", "s", "012345", "h", "", "e", "", "w", "123456789", ";", "bs", "0123456789",
            "0123456789", ";", "p", "123456789", "012"};
        for (int place = 0; place < text.length(); place++) {
            if (right[place].isEmpty()) {
                continue;
            }
            FourLorries x = new FourLorries();
            for (int code = -128; code <= 127; code++) {
                boolean secondDigit = (place == 7 || place == 9) && code >= '0' && code <= '9';
                if (secondDigit || right[place].indexOf(code) >= 0) {
                    continue;
                }
                Check.write(x, 0, 0, text);
                x.put(0, place, code);
                Check.due("promise 2, code " + code + " at " + place, x.camp(0, 0, 0, text.length()), -100 - place);
            }
            Check.due("promise 2, none of them is a camp", x.many(0), 0);
        }
    }

    /** In a wider lane a code is what a byte would make of it only if it is that itself. */
    private static void codesOfWiderLanes() {
        for (int place = 0; place < SHORT.length(); place++) {
            FourLorries x = new FourLorries();
            Check.write(x, 1, 1, SHORT);
            x.put(1, place, SHORT.charAt(place) + 256);
            Check.due("promise 2, a short that a byte would cut, at " + place, x.camp(1, 1, 0, 14), -100 - place);
            Check.write(x, 2, 2, SHORT);
            x.put(2, place, SHORT.charAt(place) + 65536);
            Check.due("promise 2, an int that a short would cut, at " + place, x.camp(2, 2, 0, 14), -100 - place);
            for (int code : new int[] {MIN, MAX, NONE, -1, 0}) {
                x.put(2, place, code);
                Check.due("promise 2, " + code + " at " + place, x.camp(2, 2, 0, 14), -100 - place);
            }
            Check.write(x, 0, 0, SHORT);
            x.put(0, place, SHORT.charAt(place) + 256);
            Check.due("promise 2, a byte that was cut, at " + place, x.camp(0, 0, 0, 14), 0);
        }
    }

    private static void fault(String text, int place) {
        FourLorries x = new FourLorries();
        Check.due("promise 2, first fault of " + text, Check.camp(x, text), -100 - place);
        Check.due("promise 2, no camp by " + text, x.many(0), 0);
    }

    private static void camp(String text) {
        Check.due("promise 2, " + text, Check.camp(new FourLorries(), text), 0);
    }

    private static void numbersOfOneOrTwoDigits() {
        for (int v = 0; v <= 9; v++) {
            FourLorries x = new FourLorries();
            Check.due("promise 2, a 0 ahead of " + v, Check.camp(x, "l1;s1h0" + v + "e0" + v + "w1;b1"), 0);
            Check.due("promise 4, HARD by a 0 and " + v, x.ofSort(0, 0, 1), v);
            Check.due("promise 4, EASY by a 0 and " + v, x.ofSort(0, 0, 2), v);
            fault("l1;s1h0" + v + v + "e1w1;b1", 8);
            fault("l1;s1h1e0" + v + v + "w1;b1", 10);
            fault("l1;s1h12" + v + "e1w1;b1", 8);
            fault("l1;s1h13" + v + "e1w1;b1", 6);
            fault("l1;s1h1e13" + v + "w1;b1", 8);
        }
        fault("l1;s1he1w1;b1", 6);
        fault("l1;s1h1ew1;b1", 8);
        fault("l1;s1h/e1w1;b1", 6);
        fault("l1;s1h:e1w1;b1", 6);
        fault("l1;s1h1/e1w1;b1", 7);
        fault("l1;s1h1:e1w1;b1", 7);
        fault("l1;s1h-1e1w1;b1", 6);
        fault("l01;s1h1e1w1;b1", 1);
        fault("l1;s01h1e1w1;b1", 5);
        fault("l1;s1h1e1w01;b1", 10);
        fault("l1;s1h1e1w10;b1", 11);
        fault("l1;s1h1e1w1;b01", 14);
        fault("l1;s1h1e1w1;b1;p011", 16);
    }

    /** Each beginning of a text that is none itself ends too soon: how many codes there are. */
    private static void textsThatEndTooSoon() {
        for (String text : new String[] {SHORT, LONGEST}) {
            int withoutPlane = text.indexOf(";p") < 0 ? text.length() : text.indexOf(";p");
            for (int n = 0; n <= text.length(); n++) {
                FourLorries x = new FourLorries();
                Check.write(x, 0, 0, text);
                boolean whole = n == withoutPlane || n == text.length();
                Check.due("promise 2, " + n + " codes of " + text, x.camp(0, 0, 0, n), whole ? 0 : -100 - n);
            }
            for (int more : new int[] {0, ';', '0', '9', 'p', 's', 'b', NONE}) {
                FourLorries x = new FourLorries();
                Check.write(x, 0, 0, text + (char) more);
                int due = more == ';' && withoutPlane == text.length() ? text.length() + 1 : text.length();
                Check.due("promise 2, behind " + text + " a code " + more, x.camp(0, 0, 0, text.length() + 1), -100 - due);
            }
        }
        fault("l1;s1h13", 6);
        fault("l1;s1h1e13", 8);
    }

    private static void sortsOfATextAtMost() {
        String sort = ";s1h1e1w1";
        fault("l1;b1", 3);
        for (int sorts = 1; sorts <= 3; sorts++) {
            FourLorries x = new FourLorries();
            Check.due("promise 2, sorts " + sorts, Check.camp(x, "l1" + sort.repeat(sorts) + ";b1"), 0);
            Check.due("promise 3, sorts " + sorts, x.ofCamp(0, 1), sorts);
        }
        fault("l1" + sort.repeat(4) + ";b1", 2 + 3 * 9 + 1);
        fault("l1" + sort.repeat(3) + ";s", 2 + 3 * 9 + 1);
        fault("l1" + sort.repeat(3) + ";", 2 + 3 * 9 + 1);
        fault("l1" + sort.repeat(3), 2 + 3 * 9);
        fault("l1" + sort + ";b1" + sort, 2 + 9 + 3 + 1);
    }

    private static void planesOfATextAsSorts() {
        String sort = ";s1h1e1w1";
        for (int sorts = 1; sorts <= 3; sorts++) {
            String text = "l1" + sort.repeat(sorts) + ";b1;p5" + "2".repeat(sorts);
            camp(text);
            fault(text.substring(0, text.length() - 1), text.length() - 1);
            fault(text + "2", text.length());
            fault(text + ";", text.length());
        }
        for (int lorries = 1; lorries <= 4; lorries++) {
            String text = "l" + lorries + sort + ";b" + "9".repeat(lorries);
            camp(text);
            fault(text.substring(0, text.length() - 1), text.length() - 1);
            fault(text + "9", text.length());
        }
    }

    private static FourLorries threeCamps() {
        FourLorries x = new FourLorries();
        Check.camp(x, LONGEST);
        Check.camp(x, "l1;s0h0e0w1;b0;p10");
        Check.camp(x, "l2;s3h4e5w6;s2h7e8w9;b78");
        return x;
    }

    private static void ofCamp() {
        for (int c : Edges.outside(0, 2)) {
            Edges.refused("promise 3, no camp " + c, CampEdgesTest::threeCamps, x -> x.ofCamp(c, 0), UNKNOWN, LEFT);
            Edges.refused("promise 3, UNKNOWN ahead of OUTSIDE", CampEdgesTest::threeCamps, x -> x.ofCamp(c, 4), UNKNOWN, LEFT);
        }
        for (int camps = 0; camps < 3; camps++) {
            int next = camps;
            Edges.refused("promise 3, the camp that comes next", () -> withTexts(next), x -> x.ofCamp(next, 0), UNKNOWN, LEFT);
        }
        int[] lorries = {4, 1, 2};
        for (int c = 0; c < 3; c++) {
            for (int what : new int[] {MIN, -1, 4, 5, 9, 11 + lorries[c], 15, 10 + 256, MAX, -10}) {
                int of = c;
                Edges.refused("promise 3, ofCamp(" + c + ", " + what + ")", CampEdgesTest::threeCamps, x -> x.ofCamp(of, what), OUTSIDE, LEFT);
            }
        }
        int[][] due = {{4, 3, 9, 4, 0, 9, 9, 9, 9}, {1, 1, 1, 0, 0, 0}, {2, 2, 0, 2, 0, 7, 8}};
        for (int c = 0; c < 3; c++) {
            for (int i = 0; i < due[c].length; i++) {
                int of = c;
                int what = i < 4 ? i : 6 + i;
                Edges.refused("promise 3, ofCamp(" + c + ", " + what + ")", CampEdgesTest::threeCamps, x -> x.ofCamp(of, what), due[c][i], LEFT);
            }
        }
    }

    /** A camp without a good part: nothing runs, nothing is brought. */
    private static void emptyCamp() {
        FourLorries x = new FourLorries();
        Check.camp(x, "l4;s0h12e12w1;s0h12e12w1;s0h12e12w1;b9999");
        Check.due("promise 3, an empty camp", x.ofCamp(0, 3), 0);
        x.turn(0, 0, 0, 5);
        x.turn(0, 1, 0, 5);
        Check.due("promise 3, one sort is wanting", x.ofCamp(0, 3), 0);
        x.turn(0, 2, 0, 1);
        Check.due("promise 3, one of it", x.ofCamp(0, 3), 1);
        x.turn(0, 2, 0, 4);
        Check.due("promise 3, as many as lorries", x.ofCamp(0, 3), 4);
        x.turn(0, 2, 0, 5);
        Check.due("promise 3, no more than lorries", x.ofCamp(0, 3), 4);
    }

    private static void ofSort() {
        int[] sorts = {3, 1, 2};
        for (int c : Edges.outside(0, 2)) {
            Edges.refused("promise 4, no camp " + c, CampEdgesTest::threeCamps, x -> x.ofSort(c, 0, 0), UNKNOWN, LEFT);
        }
        for (int c = 0; c < 3; c++) {
            int of = c;
            for (int s : Edges.outside(0, sorts[c] - 1)) {
                Edges.refused("promise 4, no sort " + s, CampEdgesTest::threeCamps, x -> x.ofSort(of, s, 0), UNKNOWN, LEFT);
                Edges.refused("promise 4, UNKNOWN ahead of OUTSIDE", CampEdgesTest::threeCamps, x -> x.ofSort(of, s, 5), UNKNOWN, LEFT);
            }
            for (int what : Edges.outside(0, 4)) {
                Edges.refused("promise 4, no what " + what, CampEdgesTest::threeCamps, x -> x.ofSort(of, sorts[of] - 1, what), OUTSIDE, LEFT);
            }
        }
        int[][] due = {{5, 12, 12, 9, 2}, {0, 0, 0, 1, 0}, {2, 7, 8, 9, 0}};
        for (int c = 0; c < 3; c++) {
            for (int i = 0; i < 5; i++) {
                int of = c;
                int what = i;
                Edges.refused("promise 4, ofSort(" + c + ", the last, " + what + ")", CampEdgesTest::threeCamps,
                    x -> x.ofSort(of, sorts[of] - 1, what), due[c][what], LEFT);
            }
        }
    }

    private static void turnBounds() {
        int[] least = {0, 0, 0, 1};
        int[] greatest = {5, 12, 12, 9};
        for (int i = 0; i < 4; i++) {
            int what = i;
            for (int v : Edges.outside(least[what], greatest[what])) {
                Edges.refused("promise 5, turn " + what + " to " + v, CampEdgesTest::threeCamps, x -> x.turn(2, 1, what, v), OUTSIDE, LEFT);
            }
            FourLorries x = threeCamps();
            int was = x.ofSort(2, 1, what);
            for (int v = least[what]; v <= greatest[what]; v++) {
                int to = v;
                Edges.taken("promise 5, turn " + what + " to " + v, x, y -> y.turn(2, 1, what, to), was, false);
                Check.due("promise 5, turned " + what, x.ofSort(2, 1, what), v);
                Check.due("promise 5, to what it is", x.turn(2, 1, what, v), v);
                was = v;
            }
            x.turn(2, 1, what, threeCamps().ofSort(2, 1, what));
            Edges.same("promise 5, turned back, all others as they were", Edges.state(x), Edges.state(threeCamps()));
        }
    }

    private static void turnOrder() {
        for (int c : Edges.outside(0, 2)) {
            Edges.refused("promise 5, no camp " + c, CampEdgesTest::threeCamps, x -> x.turn(c, 0, 0, 0), UNKNOWN, LEFT);
            Edges.refused("promise 5, UNKNOWN ahead of OUTSIDE", CampEdgesTest::threeCamps, x -> x.turn(c, 0, 4, 99), UNKNOWN, LEFT);
        }
        for (int s : Edges.outside(0, 1)) {
            Edges.refused("promise 5, no sort " + s, CampEdgesTest::threeCamps, x -> x.turn(2, s, 0, 0), UNKNOWN, LEFT);
            Edges.refused("promise 5, UNKNOWN ahead of OUTSIDE", CampEdgesTest::threeCamps, x -> x.turn(2, s, -1, -1), UNKNOWN, LEFT);
        }
        for (int what : Edges.outside(0, 3)) {
            Edges.refused("promise 5, no what " + what, CampEdgesTest::threeCamps, x -> x.turn(0, 0, what, 1), OUTSIDE, LEFT);
        }
    }
}
