/**
 * What the tests of boundary cases share. Each case is told with its promise and the document's
 * sentence. A refused call is made on one of two equal objects: behind it both must answer the
 * same, now and later on, or the refused call has changed something.
 */
abstract class Edges {
    static final String INDEX = "throws.IndexOutOfBoundsException";
    static final String TURN = "throws.IllegalStateException";
    static final String RANGE = "throws.IllegalArgumentException";
    static final String MEANING = "throws.UnsupportedOperationException";
    static final String OK = "ok";

    static final Recipe BARE = CraneTurns::new;

    private static final Probe[] PROBES = {
        Edges::lookAtAll, Edges::watchSeconds, Edges::planAll, Edges::takeAndGive, Edges::setUp,
        Edges::breakAndMend, Edges::moreJobs,
    };

    private static String sentence = "";
    private static int cases = 0;
    private static int wrong = 0;

    interface Act {
        void on(CraneTurns x);
    }

    interface ActWith {
        void on(CraneTurns x, int value);
    }

    interface Ask {
        int on(CraneTurns x);
    }

    /** Makes a new object, an equal one each time. */
    interface Recipe {
        CraneTurns make();
    }

    /** Makes calls on an object, and writes down what it answers. */
    interface Probe {
        void on(CraneTurns x, StringBuilder seen);
    }

    /** One boundary case: the promise, and the words of the document that it is about. */
    static void edge(String promiseAndSentence, Runnable test) {
        sentence = promiseAndSentence;
        cases++;
        try {
            test.run();
        } catch (RuntimeException e) {
            tell("a call of the case " + name(e));
        }
    }

    static void end() {
        System.out.println(cases + " boundary cases, " + wrong + " answers not as due");
        if (wrong != 0) {
            System.exit(1);
        }
    }

    static void due(String what, int want, int got) {
        if (want != got) {
            tell(what + " is " + got + ", due is " + want);
        }
    }

    static void allows(Recipe recipe, Act call) {
        String got = tried(recipe.make(), call);
        if (!got.equals(OK)) {
            tell("the call " + got + ", due is that it is allowed");
        }
    }

    /** The call is refused with the exception that is due, and nothing has changed. */
    static void refuses(String want, Recipe recipe, Act call) {
        String got = tried(recipe.make(), call);
        if (!got.equals(want)) {
            tell("the call answered " + got + ", due is " + want);
        }
        unchanged(recipe, call);
    }

    static void unchanged(Recipe recipe, Act call) {
        for (Probe probe : PROBES) {
            changesNothing(recipe, call, probe);
        }
    }

    static void changesNothing(Recipe recipe, Act call, Probe probe) {
        CraneTurns without = recipe.make();
        CraneTurns with = recipe.make();
        tried(with, call);
        String due = seenBy(probe, without);
        String got = seenBy(probe, with);
        if (!got.equals(due)) {
            tell("the call changed something: due is\n  " + due + "\nseen is\n  " + got);
        }
    }

    /** The last value that is allowed and the first that is refused, on each side. */
    static void limits(String want, Recipe recipe, int least, int most, ActWith call) {
        for (int value : new int[] {least, most}) {
            allows(recipe, x -> call.on(x, value));
        }
        for (int value : new int[] {least - 1, most + 1, Integer.MIN_VALUE, Integer.MAX_VALUE}) {
            refuses(want, recipe, x -> call.on(x, value));
        }
    }

    static CraneTurns made(int cranes, int gap, int speed, int lift) {
        CraneTurns x = new CraneTurns();
        x.track(cranes, gap, speed, lift);
        return x;
    }

    /** Three cranes, a broken one among them, two free jobs and a plan; no second, no giving. */
    static CraneTurns fresh() {
        CraneTurns x = made(3, 10, 5, 4);
        x.crane(2, 150, 60, 200);
        x.crane(1, 60, 30, 150);
        x.crane(0, 20, 0, 120);
        x.job(40, 90, 0);
        x.job(100, 70, 0);
        x.broken(2, true);
        x.plan(300);
        return x;
    }

    /** Job 0 done, jobs 1 and 2 at hand, job 3 given, job 4 free; crane 2 broken; planned. */
    static CraneTurns busy() {
        CraneTurns x = made(3, 10, 5, 2);
        x.crane(2, 150, 60, 200);
        x.crane(1, 60, 30, 150);
        x.crane(0, 20, 0, 120);
        x.job(20, 20, 0);
        x.job(20, 40, 0);
        x.job(80, 140, 0);
        x.job(100, 70, 0);
        x.job(30, 30, 12);
        x.give(0, 0);
        x.give(1, 0);
        x.give(2, 1);
        x.give(3, 1);
        x.broken(2, true);
        x.run(7);
        x.plan(300);
        return x;
    }

    static void places(String when, CraneTurns x, int... due) {
        for (int c = 0; c < due.length; c++) {
            due(when + ": the place of crane " + c, due[c], x.at(c, 0));
        }
    }

    static String tried(CraneTurns x, Act call) {
        try {
            call.on(x);
            return OK;
        } catch (RuntimeException e) {
            return name(e);
        }
    }

    private static String answered(CraneTurns x, Ask ask) {
        try {
            return Integer.toString(ask.on(x));
        } catch (RuntimeException e) {
            return name(e);
        }
    }

    private static String name(RuntimeException e) {
        return "throws." + e.getClass().getSimpleName();
    }

    private static void tell(String what) {
        wrong++;
        System.out.println(sentence + ": " + what);
    }

    private static String seenBy(Probe probe, CraneTurns x) {
        StringBuilder seen = new StringBuilder();
        probe.on(x, seen);
        return seen.toString();
    }

    private static void note(StringBuilder seen, CraneTurns x, Ask ask) {
        seen.append(answered(x, ask)).append(' ');
    }

    private static void noteTried(StringBuilder seen, CraneTurns x, Act call) {
        seen.append(tried(x, call)).append(' ');
    }

    private static void lookAtAll(CraneTurns x, StringBuilder seen) {
        for (int c = 0; c < 3; c++) {
            for (int what = 0; what < 8; what++) {
                int crane = c;
                int w = what;
                note(seen, x, y -> y.at(crane, w));
            }
        }
        for (int j = 0; j < 8; j++) {
            for (int what = 0; what < 3; what++) {
                int job = j;
                int w = what;
                note(seen, x, y -> y.state(job, w));
            }
        }
        for (int k = 0; k < 5; k++) {
            int nth = k;
            note(seen, x, y -> y.planned(nth));
        }
        note(seen, x, CraneTurns::near);
        note(seen, x, y -> y.run(0));
    }

    private static void watchSeconds(CraneTurns x, StringBuilder seen) {
        for (int s = 0; s < 40; s++) {
            note(seen, x, y -> y.run(1));
            for (int c = 0; c < 3; c++) {
                int crane = c;
                note(seen, x, y -> y.at(crane, 0));
                note(seen, x, y -> y.at(crane, 7));
            }
        }
        lookAtAll(x, seen);
    }

    private static void planAll(CraneTurns x, StringBuilder seen) {
        note(seen, x, y -> y.plan(300));
        lookAtAll(x, seen);
    }

    private static void takeAndGive(CraneTurns x, StringBuilder seen) {
        for (int j = 7; j >= 0; j--) {
            int job = j;
            noteTried(seen, x, y -> y.take(job));
        }
        for (int c = 0; c < 3; c++) {
            for (int j = 7; j >= 0; j--) {
                int job = j;
                int crane = c;
                noteTried(seen, x, y -> y.give(job, crane));
            }
        }
        lookAtAll(x, seen);
        note(seen, x, y -> y.run(100));
        lookAtAll(x, seen);
    }

    private static void setUp(CraneTurns x, StringBuilder seen) {
        noteTried(seen, x, y -> y.track(3, 3, 4, 5));
        for (int c = 0; c < 3; c++) {
            int crane = c;
            noteTried(seen, x, y -> y.crane(crane, y.at(crane, 0), 0, 200));
        }
        lookAtAll(x, seen);
        note(seen, x, y -> y.job(0, 200, 0));
        noteTried(seen, x, y -> y.give(0, 0));
        note(seen, x, y -> y.run(17));
        lookAtAll(x, seen);
    }

    private static void breakAndMend(CraneTurns x, StringBuilder seen) {
        for (int c = 0; c < 3; c++) {
            int crane = c;
            noteTried(seen, x, y -> y.broken(crane, true));
            noteTried(seen, x, y -> y.broken(crane, false));
        }
        note(seen, x, y -> y.run(20));
        lookAtAll(x, seen);
    }

    private static void moreJobs(CraneTurns x, StringBuilder seen) {
        for (int i = 0; i < 9; i++) {
            note(seen, x, y -> y.job(60, 100, 0));
        }
        noteTried(seen, x, y -> y.give(7, 0));
        note(seen, x, y -> y.run(50));
        lookAtAll(x, seen);
    }
}
