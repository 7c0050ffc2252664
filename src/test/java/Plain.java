import java.util.ArrayList;
import java.util.Arrays;
import java.util.HashMap;
import java.util.List;
import java.util.Map;

/**
 * The document written a second time, as plainly as can be and by other means than the class: rows are real
 * rows whose FAULTS the Java machine itself finds, TELLING goes through real bodies, days are counted forwards
 * from each question, and ways are tried over sets of parts. Runs of calls on both must answer alike.
 */
public final class Plain {
    private static final int UNKNOWN = -1, OUTSIDE = -2, STATE = -3, FULL = -4, NONE = -9;
    private static final long LOST = Long.MIN_VALUE;

    /** Ends a call with a refusal. */
    private static final class Refusal extends RuntimeException {
        private static final long serialVersionUID = 1;
        final int answer;

        Refusal(int answer) {
            super(null, null, false, false);
            this.answer = answer;
        }
    }

    private interface Body {
        long run();
    }

    private static final class Camp {
        int lorries, days;
        final List<int[]> sorts = new ArrayList<>();
        int[] brings;
        int[] plane;

        int[] good() {
            return sorts.stream().mapToInt(sort -> sort[0]).toArray();
        }
    }

    private int trace = 0;
    private int fault = 0;
    private final List<Camp> camps = new ArrayList<>();
    private final List<Part> parts = new ArrayList<>();
    private final Object[] sheets = new Object[4];
    private int spoils = 3;
    private final int[] odds = {2, 2, 2};

    // ---- refusals and faults

    private static void need(boolean holds, int refusal) {
        if (!holds) {
            throw new Refusal(refusal);
        }
    }

    private static boolean within(int v, int least, int greatest) {
        return least <= v && v <= greatest;
    }

    private static int answer(Body body) {
        try {
            return (int) body.run();
        } catch (Refusal refused) {
            return refused.answer;
        }
    }

    private static long longAnswer(Body body) {
        try {
            return body.run();
        } catch (Refusal refused) {
            return LOST;
        }
    }

    /** What the machine throws is the FAULT; fault() is told anew by each such call. */
    private long faulty(Body body, boolean isLong) {
        fault = 0;
        try {
            return body.run();
        } catch (Refusal refused) {
            return isLong ? LOST : refused.answer;
        } catch (NullPointerException e) {
            fault = 1;
        } catch (ClassCastException | ArrayStoreException e) {
            fault = 2;
        } catch (IndexOutOfBoundsException e) {
            fault = 3;
        } catch (NegativeArraySizeException e) {
            fault = 4;
        }
        return isLong ? LOST : -10 - fault;
    }

    // ---- 1 camps

    public int camp(int sheet, int lane, int i, int n) {
        return (int) faulty(() -> {
            int[] codes = taken(sheet, lane, i, n);
            int place = firstFault(codes);
            need(place < 0, -100 - place);
            need(camps.size() < 3, FULL);
            camps.add(read(codes));
            return camps.size() - 1;
        }, false);
    }

    /** In the order told: the cast, then what needs the row, then the new row's length, then the cells. */
    private int[] taken(int sheet, int lane, int i, int n) {
        need(within(sheet, 0, 3), UNKNOWN);
        need(within(lane, 0, 2), OUTSIDE);
        int[] row = wide(sheets[sheet], lane);
        // A row has no more than 60: what is longer can not be taken, and need not be made.
        int[] cells = new int[Math.min(n, 61)];
        System.arraycopy(row, i, cells, 0, n);
        return cells;
    }

    private static int[] wide(Object row, int lane) {
        if (lane == 2) {
            return ((int[]) row).clone();
        }
        int[] wide;
        if (lane == 1) {
            short[] cells = (short[]) row;
            wide = new int[cells.length];
            for (int i = 0; i < wide.length; i++) {
                wide[i] = cells[i];
            }
        } else {
            byte[] cells = (byte[]) row;
            wide = new int[cells.length];
            for (int i = 0; i < wide.length; i++) {
                wide[i] = cells[i];
            }
        }
        return wide;
    }

    /** -1 if the codes are a TEXT. */
    private static int firstFault(int[] codes) {
        StringBuilder ahead = new StringBuilder();
        for (int place = 0; place < codes.length; place++) {
            int code = codes[place];
            if (code <= 0 || code > 127 || goesOn(ahead.toString()).indexOf(code) < 0) {
                boolean secondDigit = code >= '0' && code <= '9' && ahead.toString().matches(".*[he][0-9]");
                return secondDigit ? place - 1 : place;
            }
            ahead.append((char) code);
        }
        return goesOn(ahead.toString()).indexOf('.') >= 0 ? -1 : codes.length;
    }

    /** The codes with which a beginning of a TEXT goes on; a dot if it is one itself. */
    private static String goesOn(String ahead) {
        String[] items = ahead.split(";", -1);
        String item = items[items.length - 1];
        int sorts = (int) Arrays.stream(items).filter(it -> it.startsWith("s")).count();
        if (items.length == 1) {
            return item.isEmpty() ? "l" : item.equals("l") ? "1234" : ";";
        }
        if (item.isEmpty()) {
            boolean brought = items[items.length - 2].startsWith("b");
            return brought ? "p" : sorts == 0 ? "s" : sorts < 3 ? "sb" : "b";
        }
        switch (item.charAt(0)) {
            case 's': return goesOnOfSort(item);
            case 'b': return item.length() <= ahead.charAt(1) - '0' ? "0123456789" : ";.";
            default: return item.length() == 1 ? "123456789" : item.length() < 2 + sorts ? "012" : ".";
        }
    }

    private static String goesOnOfSort(String item) {
        char last = item.charAt(item.length() - 1);
        switch (last) {
            case 's': return "012345";
            case 'h': case 'e': return "0123456789";
            case 'w': return "123456789";
            default:
        }
        char letter = item.replaceAll("[0-9]", "").charAt(item.replaceAll("[0-9]", "").length() - 1);
        String behind = letter == 's' ? "h" : letter == 'h' ? "e" : letter == 'e' ? "w" : ";";
        boolean first = (letter == 'h' || letter == 'e') && item.charAt(item.length() - 2) == letter;
        return behind + (!first ? "" : last == '0' ? "0123456789" : last == '1' ? "012" : "");
    }

    private static Camp read(int[] codes) {
        StringBuilder text = new StringBuilder();
        for (int code : codes) {
            text.append((char) code);
        }
        Camp camp = new Camp();
        for (String item : text.toString().split(";")) {
            switch (item.charAt(0)) {
                case 'l': camp.lorries = item.charAt(1) - '0'; break;
                case 's': camp.sorts.add(Arrays.stream(item.substring(1).split("[hew]")).mapToInt(Integer::parseInt).toArray()); break;
                case 'b':
                    camp.brings = item.chars().map(c -> c - '0').toArray();
                    camp.brings[0] = 0;
                    camp.plane = new int[camp.sorts.size()];
                    break;
                default:
                    camp.days = item.charAt(1) - '0';
                    camp.plane = item.substring(2).chars().map(c -> c - '0').toArray();
            }
        }
        return camp;
    }

    private Camp campOf(int x) {
        need(within(x, 0, camps.size() - 1), UNKNOWN);
        return camps.get(x);
    }

    private int[] sortOf(int x, int s) {
        need(within(s, 0, campOf(x).sorts.size() - 1), UNKNOWN);
        return camps.get(x).sorts.get(s);
    }

    public int ofCamp(int x, int what) {
        return answer(() -> {
            Camp camp = campOf(x);
            need(within(what, 0, 3) || within(what, 10, 10 + camp.lorries), OUTSIDE);
            int[] told = {camp.lorries, camp.sorts.size(), camp.days, can(camp, camp.good())};
            return what < 4 ? told[what] : camp.brings[what - 10];
        });
    }

    public int ofSort(int x, int s, int what) {
        return answer(() -> {
            int[] sort = sortOf(x, s);
            need(within(what, 0, 4), OUTSIDE);
            return what == 4 ? camps.get(x).plane[s] : sort[what];
        });
    }

    public int turn(int x, int s, int what, int v) {
        return answer(() -> {
            int[] sort = sortOf(x, s);
            need(within(what, 0, 3), OUTSIDE);
            need(what == 0 ? within(v, 0, 5) : what == 3 ? within(v, 1, 9) : within(v, 0, 12), OUTSIDE);
            int was = sort[what];
            sort[what] = v;
            return was;
        });
    }

    // ---- 2 to a day

    private static int can(Camp camp, int[] good) {
        return Math.min(camp.lorries, Arrays.stream(good).min().orElse(0));
    }

    /** What a camp brings from a day on, for one rule, last day and end; what was found out is kept. */
    private static final class Days {
        final Camp camp;
        final int rule, n, end;
        final Map<List<Integer>, Long> known = new HashMap<>();

        Days(Camp camp, int rule, int n, int end) {
            this.camp = camp;
            this.rule = rule;
            this.n = n;
            this.end = end;
        }

        long value(int[] good) {
            return rule == 4 ? never(can(camp, good), 1) : from(good, 1);
        }

        long from(int[] good, int day) {
            if (day > n) {
                return 0;
            }
            int can = can(camp, good);
            switch (rule) {
                case 1: return driven(good, can, false, day);
                case 2: return driven(good, can, true, day);
                case 3: return driven(good, Math.min(can, camp.lorries - 1), false, day);
                default:
            }
            long most = 0;
            for (int k = 0; k <= can; k++) {
                most = Math.max(most, Math.max(driven(good, k, false, day), driven(good, k, true, day)));
            }
            return most;
        }

        long driven(int[] good, int k, boolean easy, int day) {
            return 1000000L * (easy ? 2 : 3) * camp.brings[k] + left(good, k, easy, day, 0);
        }

        /** The mean over how many break of the sorts from s on. */
        private long left(int[] good, int k, boolean easy, int day, int s) {
            List<Integer> key = key(good, k, easy, day, s);
            Long before = known.get(key);
            if (before != null) {
                return before;
            }
            long mean;
            if (s == good.length) {
                boolean lands = camp.days != 0 && day % camp.days == 0;
                int[] next = good.clone();
                for (int u = 0; lands && u < next.length; u++) {
                    next[u] = Math.min(5, next[u] + camp.plane[u]);
                }
                mean = from(next, day + 1);
            } else {
                long sum = 0;
                for (int broken = 0; broken <= k; broken++) {
                    int[] fewer = good.clone();
                    fewer[s] -= broken;
                    sum += ways(k, broken, camp.sorts.get(s)[easy ? 2 : 1]) * left(fewer, k, easy, day, s + 1);
                }
                mean = shared(sum, k);
            }
            known.put(key, mean);
            return mean;
        }

        private static List<Integer> key(int[] good, int k, boolean easy, int day, int s) {
            List<Integer> key = new ArrayList<>(List.of(k, easy ? 1 : 0, day, s));
            for (int g : good) {
                key.add(g);
            }
            return key;
        }

        private long never(int k, int day) {
            return day > n ? 0 : 3000000L * camp.brings[k] + whole(k, day, 0);
        }

        private long whole(int k, int day, int s) {
            if (s == camp.sorts.size()) {
                return never(k, day + 1);
            }
            List<Integer> key = List.of(k, day, s);
            Long before = known.get(key);
            if (before != null) {
                return before;
            }
            long sum = 0;
            for (int broken = 0; broken <= k; broken++) {
                sum += ways(k, broken, camp.sorts.get(s)[1]) * whole(k - broken, day, s + 1);
            }
            known.put(key, shared(sum, k));
            return shared(sum, k);
        }

        private long shared(long sum, int k) {
            long all = 1;
            for (int i = 0; i < k; i++) {
                all *= 12;
            }
            return end == 1 && sum % all != 0 ? sum / all + 1 : sum / all;
        }

        /** Of 12 to the k: each of the k lorries breaks by h of 12 or does not, all 2 to the k cases told apart. */
        private static long ways(int k, int broken, int h) {
            long sum = 0;
            for (int which = 0; which < 1 << k; which++) {
                if (Integer.bitCount(which) == broken) {
                    long product = 1;
                    for (int lorry = 0; lorry < k; lorry++) {
                        product *= (which >> lorry & 1) == 1 ? h : 12 - h;
                    }
                    sum += product;
                }
            }
            return sum;
        }
    }

    private static long low(Camp camp, int[] good, int n) {
        return new Days(camp, 0, n, 0).value(good);
    }

    public long value(int x, int rule, int n, int end) {
        return longAnswer(() -> {
            Camp camp = campOf(x);
            need(within(rule, 0, 4), UNKNOWN);
            need(within(n, 1, 12) && within(end, 0, 1), OUTSIDE);
            return new Days(camp, rule, n, end).value(camp.good());
        });
    }

    public int today(int x, int n, int what) {
        return answer(() -> {
            Camp camp = campOf(x);
            need(within(n, 1, 12) && within(what, 0, 1), OUTSIDE);
            Days days = new Days(camp, 0, n, 0);
            long most = days.value(camp.good());
            for (int k = can(camp, camp.good()); k > 0; k--) {
                if (days.driven(camp.good(), k, false, 1) == most) {
                    return what == 0 ? k : 0;
                }
                if (days.driven(camp.good(), k, true, 1) == most) {
                    return what == 0 ? k : 1;
                }
            }
            return 0;
        });
    }

    private static int[] with(int[] good, int s, int more) {
        int[] changed = good.clone();
        changed[s] += more;
        return changed;
    }

    public long worth(int x, int s, int n) {
        return longAnswer(() -> {
            int[] sort = sortOf(x, s);
            need(within(n, 1, 12), OUTSIDE);
            need(sort[0] < 5, STATE);
            Camp camp = camps.get(x);
            return low(camp, with(camp.good(), s, 1), n) - low(camp, camp.good(), n);
        });
    }

    public int crate(int x, int w, int n, int k) {
        return answer(() -> {
            Camp camp = campOf(x);
            need(within(k, -1, camp.sorts.size() - 1), UNKNOWN);
            need(within(w, 0, 30) && within(n, 1, 12), OUTSIDE);
            List<int[]> sets = new ArrayList<>();
            fill(camp, new int[camp.sorts.size()], 0, w, sets);
            Days days = new Days(camp, 0, n, 0);
            // Least weight first, rows in order as they came: so the first of the greatest is the crate.
            sets.sort((a, b) -> Integer.compare(weight(camp, a), weight(camp, b)));
            int[] best = sets.get(0);
            long most = days.value(sum(camp.good(), best));
            for (int[] set : sets) {
                long value = days.value(sum(camp.good(), set));
                if (value > most) {
                    most = value;
                    best = set;
                }
            }
            return k < 0 ? weight(camp, best) : best[k];
        });
    }

    private static void fill(Camp camp, int[] set, int s, int w, List<int[]> sets) {
        if (s == set.length) {
            if (weight(camp, set) <= w) {
                sets.add(set.clone());
            }
            return;
        }
        for (int more = 0; more + camp.sorts.get(s)[0] <= 5; more++) {
            set[s] = more;
            fill(camp, set, s + 1, w, sets);
        }
        set[s] = 0;
    }

    private static int weight(Camp camp, int[] set) {
        int weight = 0;
        for (int s = 0; s < set.length; s++) {
            weight += set[s] * camp.sorts.get(s)[3];
        }
        return weight;
    }

    private static int[] sum(int[] a, int[] b) {
        int[] sum = a.clone();
        for (int i = 0; i < sum.length; i++) {
            sum[i] += b[i];
        }
        return sum;
    }

    public long lent(int x, int y, int s, int n) {
        return longAnswer(() -> {
            int[] from = sortOf(x, s);
            int[] to = sortOf(y, s);
            need(x != y && within(n, 1, 12), OUTSIDE);
            need(from[0] > 0 && to[0] < 5, STATE);
            Camp a = camps.get(x);
            Camp b = camps.get(y);
            long now = low(a, a.good(), n) + low(b, b.good(), n);
            return low(a, with(a.good(), s, -1), n) + low(b, with(b.good(), s, 1), n) - now;
        });
    }

    public int both(int x, int y, int s, int t, int n) {
        return answer(() -> {
            int[] xs = sortOf(x, s);
            int[] ys = sortOf(y, s);
            int[] xt = sortOf(x, t);
            int[] yt = sortOf(y, t);
            need(x != y && s != t && within(n, 1, 12), OUTSIDE);
            need(xs[0] > 0 && yt[0] > 0 && xt[0] < 5 && ys[0] < 5, STATE);
            Camp a = camps.get(x);
            Camp b = camps.get(y);
            boolean first = low(a, with(with(a.good(), s, -1), t, 1), n) > low(a, a.good(), n);
            boolean other = low(b, with(with(b.good(), s, 1), t, -1), n) > low(b, b.good(), n);
            return first && other ? 1 : 0;
        });
    }

    // ---- 3 the yard

    /** A body that is lent to whoever has none of their own. */
    private interface Listed {
        int number();

        void leave(int body);

        default int listed() {
            leave(4);
            return number();
        }
    }

    private class Part implements Listed {
        final int number, kind, sort, hours;
        boolean good = true, hidden = false;
        int lorry = NONE, place = NONE;

        Part(int kind, int sort, int hours) {
            this.number = parts.size();
            this.kind = kind;
            this.sort = sort;
            this.hours = hours;
        }

        public int number() {
            return number;
        }

        public void leave(int body) {
            trace = trace * 31 + body;
        }

        int tell() {
            leave(1);
            return hours;
        }

        /** Ahead, at and behind: how many hours more for its own sort, the next one, the one behind that. */
        int fits(int to) {
            int[][] more = {{0, NONE, NONE}, {0, 2, NONE}, {0, 1, 1}};
            int extra = more[kind][(to - sort + 3) % 3];
            return extra == NONE ? NONE : hours + extra;
        }
    }

    private class Filed extends Part {
        Filed(int kind, int sort, int hours) {
            super(kind, sort, hours);
        }

        @Override
        int tell() {
            leave(2);
            return super.tell() + 100;
        }

        int partTell() {
            return super.tell();
        }
    }

    private final class Common extends Filed {
        Common(int sort, int hours) {
            super(2, sort, hours);
        }

        @Override
        int tell() {
            leave(3);
            int filed = super.tell();
            return filed + partTell();
        }

        @Override
        public int listed() {
            leave(5);
            return 60;
        }
    }

    private Part partOf(int p) {
        need(within(p, 0, parts.size() - 1), UNKNOWN);
        return parts.get(p);
    }

    private Part in(int lorry, int place) {
        return parts.stream().filter(part -> part.lorry == lorry && part.place == place).findAny().orElse(null);
    }

    public int part(int kind, int sort, int hours) {
        return answer(() -> {
            need(within(kind, 0, 2) && within(sort, 0, 2) && within(hours, 1, 9), OUTSIDE);
            need(parts.size() < 12, FULL);
            parts.add(kind == 2 ? new Common(sort, hours) : kind == 1 ? new Filed(1, sort, hours) : new Part(0, sort, hours));
            return parts.size() - 1;
        });
    }

    public int ofPart(int p, int what) {
        return answer(() -> {
            Part part = partOf(p);
            need(within(what, 0, 6), OUTSIDE);
            int[] told = {part.kind, part.sort, part.hours, part.good ? 1 : 0, part.lorry, part.place, part.hidden ? 1 : 0};
            return told[what];
        });
    }

    public int at(int lorry, int sort) {
        return answer(() -> {
            need(within(lorry, 0, 3) && within(sort, 0, 2), UNKNOWN);
            Part part = in(lorry, sort);
            return part == null ? NONE : part.number;
        });
    }

    public int fits(int p, int sort) {
        return answer(() -> {
            Part part = partOf(p);
            need(within(sort, 0, 2), UNKNOWN);
            return part.fits(sort);
        });
    }

    public int move(int p, int lorry, int sort, int draw) {
        return answer(() -> {
            Part part = partOf(p);
            boolean toCrate = lorry == NONE;
            need(toCrate || within(lorry, 0, 3) && within(sort, 0, 2), UNKNOWN);
            need(within(draw, 0, 11), OUTSIDE);
            need(!part.hidden, STATE);
            need(toCrate ? part.lorry != NONE : part.fits(sort) != NONE && in(lorry, sort) == null, STATE);
            if (part.lorry != NONE && draw < spoils) {
                part.good = false;
            }
            part.lorry = lorry;
            part.place = toCrate ? NONE : sort;
            return toCrate ? 0 : part.fits(sort);
        });
    }

    public int mend(int p, boolean good) {
        return answer(() -> {
            Part part = partOf(p);
            boolean was = part.good;
            part.good = good;
            return was == good ? 0 : 1;
        });
    }

    public int hide(int p, boolean hidden) {
        return answer(() -> {
            Part part = partOf(p);
            need(part.lorry == NONE, STATE);
            boolean was = part.hidden;
            part.hidden = hidden;
            return was == hidden ? 0 : 1;
        });
    }

    public int spoils(int v) {
        return answer(() -> {
            need(within(v, 0, 12), OUTSIDE);
            int was = spoils;
            spoils = v;
            return was;
        });
    }

    public int odds(int sort, int v) {
        return answer(() -> {
            need(within(sort, 0, 2), UNKNOWN);
            need(within(v, 0, 12), OUTSIDE);
            int was = odds[sort];
            odds[sort] = v;
            return was;
        });
    }

    public int runs() {
        int set = 0;
        for (int l = 0; l < 4; l++) {
            int lorry = l;
            long good = parts.stream().filter(part -> part.lorry == lorry && part.good).count();
            set += good == 3 ? 1 << lorry : 0;
        }
        return set;
    }

    /** A way for one set of lorries: of all sets of parts that are left, the least price for the places from here on. */
    private final class Way {
        static final long NO_WAY = 1L << 40;
        final int set;
        final int[] places;
        final Map<Integer, Long> known = new HashMap<>();

        Way(int set) {
            this.set = set;
            this.places = java.util.stream.IntStream.range(0, 12).filter(place -> (set >> place / 3 & 1) == 1).toArray();
        }

        long price() {
            return from(0, 0);
        }

        /** A thousand for each move, and the hours. */
        private long priceOf(Part part, int place) {
            int hours = part.fits(place % 3);
            if (!part.good || part.hidden || hours == NONE) {
                return NO_WAY;
            }
            return part.lorry == place / 3 && part.place == place % 3 ? 0 : 1000 + hours;
        }

        private long from(int depth, int used) {
            if (depth == places.length) {
                return 0;
            }
            Long before = known.get(used);
            if (before != null) {
                return before;
            }
            long least = NO_WAY;
            for (Part part : parts) {
                if ((used >> part.number & 1) == 0 && priceOf(part, places[depth]) < NO_WAY) {
                    least = Math.min(least, priceOf(part, places[depth]) + from(depth + 1, used | 1 << part.number));
                }
            }
            known.put(used, least);
            return least;
        }

        /** Place after place the first part with which the rest is still as cheap as can be. */
        int[] row() {
            int[] row = new int[places.length];
            int used = 0;
            for (int depth = 0; depth < row.length; depth++) {
                for (Part part : parts) {
                    if ((used >> part.number & 1) == 0
                        && priceOf(part, places[depth]) + from(depth + 1, used | 1 << part.number) == from(depth, used)) {
                        row[depth] = part.number;
                        used |= 1 << part.number;
                        break;
                    }
                }
            }
            return row;
        }
    }

    private Way way() {
        for (int count = 4; count > 0; count--) {
            Way best = null;
            for (int set = 0; set < 16; set++) {
                Way way = new Way(set);
                if (Integer.bitCount(set) == count && way.price() < Way.NO_WAY && (best == null || way.price() < best.price())) {
                    best = way;
                }
            }
            if (best != null) {
                return best;
            }
        }
        return new Way(0);
    }

    public int most(int what) {
        return answer(() -> {
            need(within(what, 0, 3), OUTSIDE);
            Way way = way();
            long[] told = {Integer.bitCount(way.set), way.price() / 1000, way.price() % 1000, way.set};
            return told[what];
        });
    }

    public int goes(int p) {
        return answer(() -> {
            partOf(p);
            Way way = way();
            int[] row = way.row();
            for (int i = 0; i < row.length; i++) {
                if (row[i] == p) {
                    return way.places[i] / 3 * 10 + way.places[i] % 3;
                }
            }
            return NONE;
        });
    }

    public int drive(int sheet, int lane, int i, int n) {
        return (int) faulty(() -> {
            int[] draws = taken(sheet, lane, i, n);
            List<Part> driven = new ArrayList<>();
            int set = runs();
            for (int place = 0; place < 12; place++) {
                if ((set >> place / 3 & 1) == 1) {
                    driven.add(in(place / 3, place % 3));
                }
            }
            need(n >= driven.size(), OUTSIDE);
            for (int d = 0; d < driven.size(); d++) {
                need(within(draws[d], 0, 11), OUTSIDE);
            }
            int broken = 0;
            for (int d = 0; d < driven.size(); d++) {
                Part part = driven.get(d);
                if (draws[d] < odds[part.sort]) {
                    part.good = false;
                    broken++;
                }
            }
            return broken;
        }, false);
    }

    // ---- 4 sheets, parts

    public int sheet(int k, int lane, int n) {
        return (int) faulty(() -> {
            need(within(k, 0, 3), UNKNOWN);
            need(within(lane, 0, 2) && n <= 60, OUTSIDE);
            sheets[k] = lane == 0 ? new byte[n] : lane == 1 ? new short[n] : (Object) new int[n];
            return 1;
        }, false);
    }

    public int lose(int k) {
        return answer(() -> {
            need(within(k, 0, 3), UNKNOWN);
            int had = sheets[k] == null ? 0 : 1;
            sheets[k] = null;
            return had;
        });
    }

    public int put(int k, int i, int v) {
        return (int) faulty(() -> {
            need(within(k, 0, 3), UNKNOWN);
            if (sheets[k] instanceof byte[]) {
                ((byte[]) sheets[k])[i] = (byte) v;
            } else if (sheets[k] instanceof short[]) {
                ((short[]) sheets[k])[i] = (short) v;
            } else {
                ((int[]) sheets[k])[i] = v;
            }
            return 1;
        }, false);
    }

    public long cell(int k, int i, int lane) {
        return faulty(() -> {
            need(within(k, 0, 3), UNKNOWN);
            need(within(lane, 0, 2), OUTSIDE);
            return lane == 0 ? ((byte[]) sheets[k])[i] : lane == 1 ? ((short[]) sheets[k])[i] : ((int[]) sheets[k])[i];
        }, true);
    }

    public int copy(int k, int i, int other, int j, int n) {
        return (int) faulty(() -> {
            need(within(k, 0, 3) && within(other, 0, 3), UNKNOWN);
            System.arraycopy(sheets[k], i, sheets[other], j, n);
            return n;
        }, false);
    }

    public int tell(int p) {
        return answer(() -> partOf(p).tell());
    }

    public int list(int p) {
        return answer(() -> partOf(p).listed());
    }

    public int as(int p, int kind) {
        return (int) faulty(() -> {
            Object part = partOf(p);
            need(within(kind, 0, 2), OUTSIDE);
            Part taken = kind == 2 ? (Common) part : kind == 1 ? (Filed) part : (Part) part;
            return taken == null ? 0 : 1;
        }, false);
    }

    public int trace() {
        return trace;
    }

    public int fault() {
        return fault;
    }

    public int many(int what) {
        return answer(() -> {
            need(within(what, 0, 3), OUTSIDE);
            long[] told = {camps.size(), parts.size(), parts.stream().filter(part -> part.good).count(),
                parts.stream().filter(part -> part.hidden).count()};
            return told[what];
        });
    }
}
