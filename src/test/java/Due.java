import java.lang.reflect.Field;
import java.lang.reflect.InvocationTargetException;
import java.lang.reflect.Method;
import java.util.ArrayList;
import java.util.Arrays;
import java.util.List;
import java.util.TreeMap;
import java.util.function.Supplier;
import java.util.function.ToIntFunction;

/** What the tests share: answers that are due, texts that are told, and what a refused call must not change. */
abstract class Due {
    static final int BAD = -1, STATE = -2, FULL = -3, NONE = -9;
    static final int NO = -1000000, NOT = -2000000;
    static final int LEAST = Integer.MIN_VALUE, GREATEST = Integer.MAX_VALUE;

    private static final int TEXT_ROOM = 120;
    /** How many ways there are to look at what a call may have changed. */
    private static final int LATER = 6;
    private static int wrong = 0;
    private static int asked = 0;
    private static String test = "";

    static void due(String what, int got, int want) {
        asked++;
        if (got != want) {
            wrong++;
            System.out.println(test + what + " answered " + got + ", due is " + want);
        }
    }

    /** Says how many answers were asked, and ends with exit code 1 if one was not as due. */
    static void finish() {
        System.out.println(asked + " answers asked, " + wrong + " not as due");
        if (wrong != 0) {
            System.exit(1);
        }
    }

    /**
     * Runs each method of a class that is named promiseNN_.., by name; each promise from the
     * first to the last must have one.
     */
    static void runEach(Class<?> tests, int first, int last) throws IllegalAccessException {
        TreeMap<String, Method> byName = new TreeMap<>();
        for (Method m : tests.getDeclaredMethods()) {
            if (m.getName().matches("promise\\d\\d_.*")) {
                byName.put(m.getName(), m);
            }
        }
        for (int promise = first; promise <= last; promise++) {
            String begin = String.format("promise%02d_", promise);
            due("tests of promise " + promise, byName.keySet().stream().anyMatch(n -> n.startsWith(begin)) ? 1 : 0, 1);
        }
        for (Method m : byName.values()) {
            test = m.getName() + ": ";
            m.setAccessible(true);
            try {
                m.invoke(null);
            } catch (InvocationTargetException e) {
                due("it threw " + e.getCause() + " and", 1, 0);
            }
        }
        test = "";
        System.out.println(byName.size() + " tests");
    }

    static void type(SplicedWeb x, String text) {
        for (int i = 0; i < text.length(); i++) {
            x.type(text.charAt(i));
        }
    }

    static int tell(SplicedWeb x, String text) {
        type(x, text);
        return x.tells();
    }

    static SplicedWeb told(String text) {
        SplicedWeb x = new SplicedWeb();
        int answer = tell(x, text);
        if (answer < 0) {
            due("tells() of \"" + text + "\"", answer, 0);
        }
        return x;
    }

    static void counts(String when, SplicedWeb x, int... want) {
        for (int i = 0; i < want.length; i++) {
            due(when + ": count(" + i + ")", x.count(i), want[i]);
        }
    }

    static void unitIs(String when, SplicedWeb x, int k, int... want) {
        for (int i = 0; i < want.length; i++) {
            due(when + ": unit(" + k + ", " + i + ")", x.unit(k, i), want[i]);
        }
    }

    static void lastIs(String when, SplicedWeb x, int... want) {
        for (int i = 0; i < want.length; i++) {
            due(when + ": last(" + i + ")", x.last(i), want[i]);
        }
    }

    // ---- states that the edges are tried in; each is made by less than 130 calls

    /** Four UNITS, three REELS, the last one spun; GOOD, WASTE and a SPLICE came, IMAGE 1 was not kept. */
    static SplicedWeb busy() {
        SplicedWeb x = told("u2;u3;u1;e2;l4;i1;p2;r4 1;r20-3;r9 1;");
        x.spins();
        x.ticks(11);
        x.drifts(1, 5);
        x.corrects(2, -3);
        x.spins();
        x.ticks(2);
        x.keep(0);
        x.corrects(1, 7);
        x.sees(1, 4);
        type(x, "e1;");
        return x;
    }

    /** BROKEN, with a REEL to start with; the one that is next was being spun. */
    static SplicedWeb broken() {
        SplicedWeb x = told("u2;u1;e1;i0;p9;r5 3;r9-3;");
        x.keep(1);
        x.ticks(4);
        x.spins();
        x.corrects(1, 2);
        x.ticks(60);
        x.sees(2, 0);
        type(x, "u1;");
        return x;
    }

    /** All that can be full is full: 120 letters, six SEEN, six that can be UNDONE, both IMAGES. */
    static SplicedWeb full() {
        SplicedWeb x = told("u1;u1;u1;e1;r9 1;r9 2;");
        x.keep(0);
        for (int i = 1; i <= 7; i++) {
            x.drifts(1, i);
        }
        x.keep(1);
        for (int i = 1; i <= 6; i++) {
            x.sees(1, 2);
        }
        type(x, "u1;" + " ".repeat(TEXT_ROOM - 3));
        return x;
    }

    // ---- what a refused call must not change

    /** The call is refused with this answer, and all answers that can come later are as without it. */
    static void refused(String call, Supplier<SplicedWeb> made, ToIntFunction<SplicedWeb> asks, int want) {
        for (int later = 0; later < LATER; later++) {
            SplicedWeb with = made.get();
            SplicedWeb without = made.get();
            due(call, asks.applyAsInt(with), want);
            same(call + " changes nothing, as " + later + " shows",
                answersLater(with, later), answersLater(without, later));
        }
    }

    /** An object answers some 400 calls here at most, so that 512 are not passed. */
    private static int[] answersLater(SplicedWeb x, int later) {
        List<Integer> answers = new ArrayList<>();
        if (later == 1) {
            for (int i = 0; i < 8; i++) {
                answers.add(x.undo());
            }
        }
        if (later == 2 || later == 3) {
            answers.add(x.back(later - 2));
        }
        if (later == 4) {
            answers.add(x.tells());
        }
        if (later == 5) {
            answers.add(x.ticks(9));
        }
        for (int answer : picture(x)) {
            answers.add(answer);
        }
        return answers.stream().mapToInt(i -> i).toArray();
    }

    /** All that can be asked without changing anything: some 190 calls. */
    static int[] picture(SplicedWeb x) {
        int[] run = pictureOfRun(x);
        int[] row = Arrays.copyOf(run, run.length + 11);
        int n = run.length;
        for (int what : new int[] {0, 1, 13, 14, 15, 16, 17, 18, 19}) row[n++] = x.count(what);
        row[n++] = x.which();
        row[n] = x.look();
        return row;
    }

    /** Of that, what 2 tells and what comes of it: neither THE TEXT nor what was SEEN nor what can be UNDONE. */
    static int[] pictureOfRun(SplicedWeb x) {
        List<Integer> row = new ArrayList<>();
        for (int what = 2; what <= 12; what++) row.add(x.count(what));
        for (int k = 0; k <= 3; k++) {
            for (int what = 0; what <= 5; what++) row.add(x.unit(k, what));
            for (int age = 0; age <= 27; age++) row.add(x.error(k, age));
        }
        for (int r = 0; r <= 7; r++) {
            for (int what = 0; what <= 2; what++) row.add(x.reel(r, what));
        }
        for (int what = 0; what <= 6; what++) row.add(x.last(what));
        row.add(x.steady());
        row.add(x.cost());
        return row.stream().mapToInt(i -> i).toArray();
    }

    static void same(String what, int[] is, int[] was) {
        due(what + ": first answer that is another", Arrays.mismatch(is, was), -1);
    }

    // ---- what no run of calls can reach is set from outside

    static Object inner(Object holder, String name) {
        try {
            return innerField(holder, name).get(holder);
        } catch (ReflectiveOperationException e) {
            throw new IllegalStateException("no field " + name + " where this test looks", e);
        }
    }

    static void setInner(Object holder, String name, int value) {
        try {
            innerField(holder, name).setInt(holder, value);
        } catch (ReflectiveOperationException e) {
            throw new IllegalStateException("no field " + name + " where this test looks", e);
        }
    }

    private static Field innerField(Object holder, String name) throws NoSuchFieldException {
        Field field = holder.getClass().getDeclaredField(name);
        field.setAccessible(true);
        return field;
    }
}
