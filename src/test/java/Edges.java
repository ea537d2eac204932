import java.lang.reflect.Method;
import java.util.Arrays;
import java.util.Comparator;
import java.util.Set;
import java.util.TreeSet;

/**
 * What the tests of boundary cases share. Each test is a method whose name begins with the number of
 * its promise (p07_..), so that none is forgotten and each wrong answer says what it breaks.
 */
abstract class Edges {
    static final int NONE = RingUntie.NONE, BAD = RingUntie.BAD, STATE = RingUntie.STATE;
    static final int FULL = RingUntie.FULL, GUARDED = RingUntie.GUARDED, BIG = RingUntie.BIG;
    static final int LEAST = Integer.MIN_VALUE, MOST = Integer.MAX_VALUE;
    static final int ROUTINE = 0, FIELD = 1, NEWS = 2;

    private static final Due DUE = new Due();
    private static String test = "";

    interface Build {
        RingUntie make();
    }

    interface Call {
        int on(RingUntie x);
    }

    /** Runs all tests of a class; each promise from the first to the last one must have some. */
    static void runAll(Class<?> tests, int first, int last) throws Exception {
        Method[] all = tests.getDeclaredMethods();
        Arrays.sort(all, Comparator.comparing(Method::getName));
        Set<Integer> promises = new TreeSet<>();
        for (Method one : all) {
            if (one.getName().matches("p\\d\\d_.*")) {
                test = one.getName();
                promises.add(Integer.parseInt(test.substring(1, 3)));
                one.invoke(null);
            }
        }
        for (int promise = first; promise <= last; promise++) {
            DUE.holds(promise + " has a test", promises.contains(promise));
        }
        DUE.end(tests.getName());
    }

    static void is(String call, long got, long want) {
        DUE.is(test + ": " + call, got, want);
    }

    static void holds(String what, boolean is) {
        DUE.holds(test + ": " + what, is);
    }

    static int body(RingUntie x, int routine, String text) {
        return Due.body(x, routine, text);
    }

    // ---- what a refused call leaves

    /** The call answers want, and all that can be seen is as it is without the call. */
    static void refused(String call, int want, Build build, Call refused) {
        compare(call, want, build, refused, View.ALL);
    }

    /** As refused(), but THE TAPE is empty then. */
    static void refusedBody(String call, int want, Build build, Call refused) {
        compare(call, want, build, refused, View.NO_TAPE);
        RingUntie x = build.make();
        refused.on(x);
        is(call + ", then bytes of the tape", x.count(9), 0);
    }

    /** The call is GUARDED and tells this tie; all else is as it is without the call. */
    static void guarded(String call, int tie, Build build, Call refused) {
        compare(call, GUARDED, build, refused, View.NO_TIE_TOLD);
        is(call + ", then guarded()", tieTold(build, refused), tie);
    }

    static void guardedBody(String call, int tie, Build build, Call refused) {
        compare(call, GUARDED, build, refused, View.NO_TAPE | View.NO_TIE_TOLD);
        is(call + ", then guarded()", tieTold(build, refused), tie);
    }

    private static int tieTold(Build build, Call refused) {
        RingUntie x = build.make();
        refused.on(x);
        return x.guarded();
    }

    /** The change is taken; with back() behind it all is as it was. The build keeps fewer than 20 changes. */
    static void takenBack(String call, int want, Build build, Call change) {
        RingUntie x = build.make();
        int kept = x.count(7);
        is(call, change.on(x), want);
        is(call + " is kept", x.count(7), kept + 1);
        compare(call + ", back()", kept, build, y -> {
            change.on(y);
            return y.back();
        }, View.ALL);
    }

    private static void compare(String call, int want, Build build, Call between, int but) {
        is(call, between.on(build.make()), want);
        for (int row = 0; row < View.ROWS; row++) {
            RingUntie without = build.make(), with = build.make();
            between.on(with);
            String due = View.row(without, row, but), got = View.row(with, row, but);
            holds(call + " changes " + View.NAMES[Math.min(row, View.NAMES.length - 1)] + " (row " + row + "):\n  "
                + due + "\n  " + got, due.equals(got));
        }
    }

    // ---- programs

    /** A little of all, and half a text on the tape. */
    static RingUntie busy() {
        RingUntie x = quiet();
        Due.feed(x, "add 5;ca");
        return x;
    }

    /** A little of all: ties of each sort, a ring, a face, what is allowed, prices, a day; 14 changes. */
    static RingUntie quiet() {
        RingUntie x = new RingUntie();
        x.part();
        x.part();
        x.part();
        x.add(ROUTINE, 0);
        x.add(ROUTINE, 1);
        x.add(ROUTINE, 2);
        x.add(ROUTINE, 0);
        x.add(FIELD, 2);
        x.add(NEWS, 1);
        body(x, 0, "call 1;odd 2;news 0;get 0");
        body(x, 1, "put 0;odd 3;add 1");
        body(x, 2, "mul 3;call 1");
        x.hear(0, 2);
        x.face(1, 1);
        x.allow(2, 0, 9);
        x.allow(0, 1, 1);
        for (int sort = 0; sort < 4; sort++) {
            x.price(sort, sort + 2);
        }
        x.day(2);
        x.run(3, 3);
        x.run(4, 4);
        x.guard(1);
        x.move(FIELD, 0, 0);
        x.guard(0);
        return x;
    }

    /** So many parts, and nothing else. */
    static RingUntie parts(int parts) {
        RingUntie x = new RingUntie();
        for (int p = 0; p < parts; p++) {
            x.part();
        }
        return x;
    }

    /** One part with so many routines, fields, news. */
    static RingUntie things(int routines, int fields, int news) {
        RingUntie x = parts(1);
        int[] totals = {routines, fields, news};
        for (int what = 0; what < 3; what++) {
            for (int i = 0; i < totals[what]; i++) {
                x.add(what, 0);
            }
        }
        return x;
    }

    /** So many parts, each with the routine of its number, and calls pq: routine p calls routine q. */
    static RingUntie web(int parts, int... calls) {
        RingUntie x = Due.withParts(parts);
        for (int p = 0; p < parts; p++) {
            StringBuilder text = new StringBuilder();
            for (int call : calls) {
                if (call / 10 == p) {
                    text.append(text.length() == 0 ? "" : ";").append("call ").append(call % 10);
                }
            }
            if (text.length() > 0) {
                body(x, p, text.toString());
            }
        }
        return x;
    }

    /** A text again and again, with a ; between. */
    static String times(int n, String text) {
        StringBuilder all = new StringBuilder();
        for (int i = 0; i < n; i++) {
            all.append(i == 0 ? "" : ";").append(text);
        }
        return all.toString();
    }
}
