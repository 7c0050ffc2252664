import java.util.HashMap;
import java.util.Map;
import java.util.Random;

/** A camp told over again, by plain recursion over all that can come, to hold the class against. */
final class Model {
    final int lorries, sorts, planeDays;
    final int[] good, hard, easy, weight, plane, brings;
    private final Map<String, Long> known = new HashMap<>();

    /** From a text that is one. */
    Model(String text) {
        String[] items = text.split(";");
        lorries = items[0].charAt(1) - '0';
        boolean planes = items[items.length - 1].charAt(0) == 'p';
        sorts = items.length - (planes ? 3 : 2);
        good = new int[sorts];
        hard = new int[sorts];
        easy = new int[sorts];
        weight = new int[sorts];
        plane = new int[sorts];
        for (int s = 0; s < sorts; s++) {
            String[] n = items[1 + s].split("[shew]");
            good[s] = Integer.parseInt(n[1]);
            hard[s] = Integer.parseInt(n[2]);
            easy[s] = Integer.parseInt(n[3]);
            weight[s] = Integer.parseInt(n[4]);
            plane[s] = planes ? items[items.length - 1].charAt(2 + s) - '0' : 0;
        }
        planeDays = planes ? items[items.length - 1].charAt(1) - '0' : 0;
        brings = new int[lorries + 1];
        for (int k = 1; k <= lorries; k++) {
            brings[k] = items[1 + sorts].charAt(k) - '0';
        }
    }

    static String randomText(Random random) {
        int lorries = 1 + random.nextInt(4);
        int sorts = 1 + random.nextInt(3);
        StringBuilder b = new StringBuilder("l").append(lorries);
        for (int s = 0; s < sorts; s++) {
            b.append(";s").append(random.nextInt(6)).append('h').append(random.nextInt(13));
            b.append('e').append(random.nextInt(13)).append('w').append(1 + random.nextInt(9));
        }
        b.append(";b");
        for (int k = 0; k < lorries; k++) {
            b.append(random.nextInt(10));
        }
        if (random.nextBoolean()) {
            b.append(";p").append(1 + random.nextInt(9));
            for (int s = 0; s < sorts; s++) {
                b.append(random.nextInt(3));
            }
        }
        return b.toString();
    }

    /** The text with so many changes: a code put for another, put in, taken out, or all behind it cut off. */
    static String mutated(Random random, String text, int changes) {
        StringBuilder b = new StringBuilder(text);
        for (int i = 0; i < changes && b.length() > 0; i++) {
            int place = random.nextInt(b.length());
            char code = "lshewbp;0123456789".charAt(random.nextInt(18));
            switch (random.nextInt(4)) {
                case 0: b.setCharAt(place, code); break;
                case 1: b.insert(place, code); break;
                case 2: b.deleteCharAt(place); break;
                default: b.setLength(place + 1);
            }
        }
        return b.toString();
    }

    int can(int[] g) {
        int can = lorries;
        for (int parts : g) {
            can = Math.min(can, parts);
        }
        return can;
    }

    long value(int rule, int n, int end) {
        return value(good, rule, n, end);
    }

    long value(int[] g, int rule, int n, int end) {
        known.clear();
        return rule == 4 ? never(can(g), 1, n, end) : from(g, rule, 1, n, end);
    }

    private long from(int[] g, int rule, int day, int n, int end) {
        if (day > n) {
            return 0;
        }
        String key = java.util.Arrays.toString(g) + day;
        Long before = known.get(key);
        if (before != null) {
            return before;
        }
        long answer;
        int can = can(g);
        if (rule == 0) {
            answer = 0;
            for (int k = 0; k <= can; k++) {
                answer = Math.max(answer, driven(g, k, false, rule, day, n, end));
                answer = Math.max(answer, driven(g, k, true, rule, day, n, end));
            }
        } else {
            answer = driven(g, rule == 3 ? Math.min(can, lorries - 1) : can, rule == 2, rule, day, n, end);
        }
        known.put(key, answer);
        return answer;
    }

    /** The day's driving of k and what follows. */
    private long driven(int[] g, int k, boolean gentle, int rule, int day, int n, int end) {
        long brought = (gentle ? 2 : 3) * 1000000L * brings[k];
        return brought + mean(0, g.clone(), k, gentle, rule, day, n, end);
    }

    private long mean(int s, int[] g, int k, boolean gentle, int rule, int day, int n, int end) {
        if (s == sorts) {
            int[] next = g.clone();
            for (int u = 0; u < sorts && planeDays > 0 && day % planeDays == 0; u++) {
                next[u] = Math.min(5, next[u] + plane[u]);
            }
            return from(next, rule, day + 1, n, end);
        }
        long sum = 0;
        for (int broken = 0; broken <= k; broken++) {
            int[] left = g.clone();
            left[s] -= broken;
            sum += chance(k, broken, gentle ? easy[s] : hard[s]) * mean(s + 1, left, k, gentle, rule, day, n, end);
        }
        return cut(sum, k, end);
    }

    private long never(int k, int day, int n, int end) {
        return day > n ? 0 : 3000000L * brings[k] + neverMean(0, k, day, n, end);
    }

    private long neverMean(int s, int k, int day, int n, int end) {
        if (s == sorts) {
            String key = k + "@" + day;
            Long before = known.get(key);
            if (before == null) {
                before = never(k, day + 1, n, end);
                known.put(key, before);
            }
            return before;
        }
        long sum = 0;
        for (int broken = 0; broken <= k; broken++) {
            sum += chance(k, broken, hard[s]) * neverMean(s + 1, k - broken, day, n, end);
        }
        return cut(sum, k, end);
    }

    private static long cut(long sum, int k, int end) {
        long all = power(12, k);
        return sum / all + (end == 1 && sum % all != 0 ? 1 : 0);
    }

    private static long chance(int k, int broken, int h) {
        return choose(k, broken) * power(h, broken) * power(12 - h, k - broken);
    }

    private static long choose(int k, int b) {
        return b == 0 || b == k ? 1 : choose(k - 1, b - 1) + choose(k - 1, b);
    }

    private static long power(long base, int times) {
        return times == 0 ? 1 : base * power(base, times - 1);
    }

    /** Ten times how many run, and 1 if easy. */
    int today(int n) {
        known.clear();
        int best = 0;
        long most = -1;
        for (int k = can(good); k >= 0; k--) {
            for (int gentle = 0; gentle <= (k == 0 ? 0 : 1); gentle++) {
                long value = driven(good, k, gentle == 1, 0, 1, n, 0);
                if (value > most) {
                    most = value;
                    best = 10 * k + gentle;
                }
            }
        }
        return best;
    }

    long changed(int s, int by, int t, int byOther, int n) {
        int[] g = good.clone();
        g[s] += by;
        if (t >= 0) {
            g[t] += byOther;
        }
        return value(g, 0, n, 0) - value(good, 0, n, 0);
    }

    /** How many of each sort, and behind them the weight. */
    int[] crate(int w, int n) {
        int[] best = null;
        long most = -1;
        int[] more = new int[3];
        for (more[0] = 0; more[0] <= 5; more[0]++) {
            for (more[1] = 0; more[1] <= (sorts > 1 ? 5 : 0); more[1]++) {
                for (more[2] = 0; more[2] <= (sorts > 2 ? 5 : 0); more[2]++) {
                    int[] g = good.clone();
                    int heavy = 0;
                    boolean room = true;
                    for (int s = 0; s < sorts; s++) {
                        g[s] += more[s];
                        heavy += more[s] * weight[s];
                        room &= g[s] <= 5;
                    }
                    if (!room || heavy > w) {
                        continue;
                    }
                    long value = value(g, 0, n, 0);
                    if (value > most || value == most && heavy < best[3]) {
                        most = value;
                        best = new int[] {more[0], more[1], more[2], heavy};
                    }
                }
            }
        }
        return best;
    }
}
