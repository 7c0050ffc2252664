import java.lang.reflect.Method;
import java.util.ArrayList;
import java.util.Arrays;
import java.util.HashMap;
import java.util.List;
import java.util.Map;
import java.util.Random;

/**
 * All promises together: runs of up to 512 calls on one object, as they may come, each answer held against Plain,
 * the document written a second time. With two numbers: so many runs, from that seed on.
 */
public final class RunsTest {
    private static final int CALLS = 512, RUNS = 120;
    private static final int[] ODD = {Integer.MIN_VALUE, Integer.MAX_VALUE, -10, -9, -2, -1, 4, 5, 6, 12, 13, 31, 60, 61, 256};
    private static final Map<String, Method> CLASS = methods(FourLorries.class), PLAIN = methods(Plain.class);

    private final FourLorries x = new FourLorries();
    private final Plain plain = new Plain();
    private final Random random;
    private final List<String> asked = new ArrayList<>();
    private boolean alike = true;

    private RunsTest(int seed) {
        random = new Random(seed);
    }

    public static void main(String[] args) throws ReflectiveOperationException {
        int runs = args.length > 0 ? Integer.parseInt(args[0]) : RUNS;
        int first = args.length > 1 ? Integer.parseInt(args[1]) : 1;
        Check.due("calls of the face", CLASS.size(), 34);
        Check.yes("Plain has them all", PLAIN.keySet().equals(CLASS.keySet()));
        for (int seed = first; seed < first + runs; seed++) {
            new RunsTest(seed).run(seed);
        }
        Check.end("RunsTest");
    }

    private static Map<String, Method> methods(Class<?> of) {
        Map<String, Method> methods = new HashMap<>();
        for (Method m : of.getDeclaredMethods()) {
            if (java.lang.reflect.Modifier.isPublic(m.getModifiers())) {
                methods.put(m.getName(), m);
            }
        }
        return methods;
    }

    private void run(int seed) throws ReflectiveOperationException {
        int camps = random.nextInt(4);
        int yard = random.nextInt(4);
        int sheets = 1 + random.nextInt(2);
        for (int step = 0; step < CALLS && goesOn(); step++) {
            int at = random.nextInt(camps + yard + sheets);
            if (at < camps) {
                aboutCamps();
            } else if (at < camps + yard) {
                aboutYard();
            } else {
                aboutSheets();
            }
        }
        if (!alike) {
            System.out.println("run " + seed + ":");
            asked.stream().skip(Math.max(0, asked.size() - 60)).forEach(System.out::println);
        }
    }

    private boolean goesOn() {
        return alike && asked.size() < CALLS;
    }

    private long ask(String name, Object... given) throws ReflectiveOperationException {
        if (!goesOn()) {
            return 0;
        }
        long due = ((Number) PLAIN.get(name).invoke(plain, given)).longValue();
        long got = ((Number) CLASS.get(name).invoke(x, given)).longValue();
        asked.add(name + Arrays.toString(given) + " " + got);
        Check.due("call " + asked.size() + ", " + name + Arrays.toString(given), got, due);
        alike = got == due;
        return got;
    }

    /** Nearly always 0 .. most, now and then beside it. */
    private int about(int most) {
        int chance = random.nextInt(40);
        return chance == 0 ? ODD[random.nextInt(ODD.length)] : chance == 1 ? most + 1 : chance == 2 ? -1 : random.nextInt(most + 1);
    }

    private int day() {
        return random.nextInt(12) == 0 ? about(13) : 1 + random.nextInt(random.nextInt(3) == 0 ? 12 : 4);
    }

    // ---- camps

    private void aboutCamps() throws ReflectiveOperationException {
        int camps = x.many(0);
        if (camps == 0 || random.nextInt(camps < 3 ? 12 : 80) == 0) {
            text();
            return;
        }
        int c = about(camps - 1);
        int s = about(Math.max(0, x.ofCamp(c, 1) - 1));
        int t = random.nextInt(3) == 0 ? about(2) : (s + 1) % 2;
        int other = random.nextInt(8) == 0 ? about(2) : (c + 1) % camps;
        switch (random.nextInt(12)) {
            case 0: ask("ofCamp", c, random.nextBoolean() ? about(3) : 10 + about(4)); break;
            case 1: ask("ofSort", c, s, about(4)); break;
            case 2: case 3:
                int what = about(3);
                ask("turn", c, s, what, what == 0 ? Math.max(about(5), about(5)) : about(12));
                break;
            case 4: case 5: ask("value", c, about(4), day(), about(1)); break;
            case 6: ask("today", c, day(), about(1)); break;
            case 7: ask("worth", c, s, day()); break;
            case 8: ask("crate", c, about(30), day(), about(3) - 1); break;
            case 9: ask("lent", c, other, s, day()); break;
            case 10: ask("both", c, other, s, t, day()); break;
            default: ask("fault");
        }
    }

    /** A text, perhaps with a fault, written onto a sheet with something ahead and behind, and taken. */
    private void text() throws ReflectiveOperationException {
        int changes = random.nextInt(3) == 0 ? 1 + random.nextInt(2) : 0;
        String text = Model.mutated(random, Model.randomText(random), changes);
        int k = random.nextInt(4);
        int lane = random.nextInt(3);
        int ahead = random.nextInt(5);
        int length = Math.min(60, ahead + text.length() + random.nextInt(5));
        ask("sheet", k, lane, length);
        for (int i = 0; i < text.length() && ahead + i < length; i++) {
            ask("put", k, ahead + i, (int) text.charAt(i) + (random.nextInt(300) == 0 ? 256 : 0));
        }
        ask("camp", k, random.nextInt(20) == 0 ? about(2) : lane, ahead, random.nextInt(20) == 0 ? about(60) : text.length());
    }

    // ---- the yard

    private void aboutYard() throws ReflectiveOperationException {
        int parts = x.many(1);
        if (parts == 0 || random.nextInt(parts < 12 ? 8 : 200) == 0) {
            ask("part", about(2), about(2), 1 + about(8));
            return;
        }
        int p = about(parts - 1);
        switch (random.nextInt(18)) {
            case 0: ask("ofPart", p, about(6)); break;
            case 1: ask("at", about(3), about(2)); break;
            case 2: ask("fits", p, about(2)); break;
            case 3: case 4: case 5: ask("move", p, about(3), about(2), about(11)); break;
            case 6: byTheWay(p); break;
            case 7: ask("move", p, FourLorries.NONE, about(3), about(11)); break;
            case 8: ask("mend", p, random.nextInt(4) != 0); break;
            case 9: ask("hide", p, random.nextInt(3) == 0); break;
            case 10: ask("spoils", about(12)); break;
            case 11: ask("odds", about(2), about(12)); break;
            case 12: ask("runs"); break;
            case 13: ask("most", about(3)); break;
            case 14: ask("goes", p); break;
            case 15: driveOut(); break;
            case 16: ask("many", about(3)); break;
            default: aboutBodies(p);
        }
    }

    /** All parts into the crate, and from there by the way of MOST, so that lorries run and are driven out. */
    private void byTheWay(int p) throws ReflectiveOperationException {
        if (random.nextInt(3) != 0) {
            return;
        }
        for (int q = 0; q < x.many(1); q++) {
            ask("move", q, FourLorries.NONE, 0, 11);
            if (random.nextInt(8) != 0) {
                ask("hide", q, false);
                ask("mend", q, true);
            }
        }
        for (int q = 0; q < x.many(1); q++) {
            long goes = ask("goes", q);
            if (goes >= 0) {
                ask("move", q, (int) goes / 10, (int) goes % 10, about(11));
            }
        }
        ask("goes", p);
        ask("most", about(3));
        driveOut();
    }

    private void driveOut() throws ReflectiveOperationException {
        int k = random.nextInt(4);
        int lane = random.nextInt(3);
        int n = 3 * Integer.bitCount(x.runs());
        ask("sheet", k, lane, 14);
        for (int i = 0; i < n; i++) {
            ask("put", k, i, random.nextInt(60) == 0 ? about(12) : random.nextInt(12));
        }
        ask("drive", k, lane, random.nextInt(10) == 0 ? about(3) : 0, random.nextInt(10) == 0 ? about(15) : n);
        ask("fault");
        ask("runs");
    }

    private void aboutBodies(int p) throws ReflectiveOperationException {
        switch (random.nextInt(5)) {
            case 0: ask("tell", p); break;
            case 1: ask("list", p); break;
            case 2: ask("as", p, about(2)); break;
            case 3: ask("fault"); break;
            default: ask("trace");
        }
    }

    // ---- sheets

    private void aboutSheets() throws ReflectiveOperationException {
        int k = about(3);
        int lane = about(2);
        switch (random.nextInt(12)) {
            case 0: ask("sheet", k, lane, random.nextInt(6) == 0 ? about(60) : about(6)); break;
            case 1: ask("lose", random.nextInt(3) == 0 ? k : 4); break;
            case 2: case 3: ask("put", k, about(6), random.nextBoolean() ? about(300) : random.nextInt()); break;
            case 4: case 5: ask("cell", k, about(6), lane); break;
            case 6: case 7: ask("copy", k, about(4), random.nextBoolean() ? k : about(3), about(4), about(4)); break;
            case 8: ask("camp", k, lane, about(7), about(7)); break;
            case 9: ask("drive", k, lane, about(7), about(7)); break;
            case 10: ask("many", about(4)); break;
            default: ask("fault");
        }
    }
}
